/-! the reference's isName, set, type, clear, exactly -/
/-- a name that may be set -/
def nm_ok (m : Int) (L : Nat → Int) (v : Int) : Prop := 0 < v ∧ v < 1073741824 ∧ lgd 6 v ∧ ∀ l : Nat, (l : Int) < m → L l ≠ v
theorem lgd_z0 (n : Nat) : lgd n 0 := by
  cases n with
  | zero => exact rfl
  | succ n => exact Or.inl rfl
section SETR
variable {d : Nat} {h : sm_H} {T : List (Int × Int × Int)}
def in_R (h : sm_H) (n : Nat) (zv zw : Int) (w : Option mi_V) (h' : sm_H) : Prop := h' = h ∧ ((w = some (.inl 1) ∧ lgd n zw ∧ ∀ l : Nat, (l : Int) < mi_f h 13962 → tq_L h l ≠ zv) ∨ (w = some (.inl 0) ∧ ¬ (lgd n zw ∧ ∀ l : Nat, (l : Int) < mi_f h 13962 → tq_L h l ≠ zv)))
theorem me_isNamer {zv : Int64} (hS : ab_Sh sx_sk h) (hO : tq_O h) : me_E (d + 2) 236 0 [some (.inr (.inr 109)), some (.inr (.inl zv)), none, none, none] [] h (fun w h' => h' = h ∧ ((w = some (.inl 1) ∧ nm_ok (mi_f h 13962) (tq_L h) zv.toInt) ∨ (w = some (.inl 0) ∧ ¬ nm_ok (mi_f h 13962) (tq_L h) zv.toInt))) := by
  have c0 : (Int64.ofNat 0).toInt = 0 := by decide
  have c1 : (Int64.ofNat 1).toInt = 1 := by decide
  have c26 : (Int64.ofNat 26).toInt = 26 := by decide
  have c30 : (Int64.ofNat 1073741824).toInt = 1073741824 := by decide
  have lp : ∀ (n : Nat) (zw : Int64), 1 ≤ zv.toInt → 0 ≤ zw.toInt → zw.toInt < 32 ^ n → me_E (d + 2) 236 18 [some (.inr (.inr 109)), some (.inr (.inl zv)), none, some (.inr (.inl zw)), none] [] h (in_R h n zv.toInt zw.toInt) := by
    have stop : ∀ (n : Nat) (zw : Int64), 1 ≤ zv.toInt → zw.toInt = 0 → ∀ h1, ab_Sh sx_sk h1 → ab_Fr [] h h1 → ∃ Q1, me_E (d + 1) 216 0 (mi_entry 4 [.inr (.inr 109), .inr (.inl (zv))]) [] h1 Q1 ∧ ∀ w h2, (∀ x, w = some x → mi_ok x) → Q1 w h2 → me_E (d + 2) 236 60 [some (.inr (.inr 109)), some (.inr (.inl zv)), none, some (.inr (.inl zw)), none] (mi_back w []) h2 (in_R h n zv.toInt zw.toInt) := by
      intro n zw v1 w0 h1 g1 g2
      have e := me_nil g2
      subst e
      refine ⟨_, me_kox g1 v1 hO, fun w h2 ow hq => ?_⟩
      obtain ⟨rfl, z, z0, z1, zf, rfl⟩ := hq
      refine mt_inC g1 ⟨by omega, by omega⟩ ?_ ?_
      · intro c h3 r1 r2
        refine ⟨me_nil r2, Or.inr ⟨rfl, fun q => ?_⟩⟩
        rcases zf with ⟨f0, f1, f2, -⟩ | ⟨f0, -⟩
        · exact q.2 z.toNat (by omega) f2
        · omega
      · intro c h3 r1 r2
        rcases zf with ⟨f0, -⟩ | ⟨f0, f1⟩
        · omega
        · exact ⟨me_nil r2, Or.inl ⟨rfl, by rw [w0]; exact lgd_z0 n, f1⟩⟩
    intro n
    induction n with
    | zero =>
      intro zw v1 w0 w1
      have w1 : zw.toInt < 1 := w1
      have t0 := lgt9 zw (Int64.ofNat 0)
      refine mt_inB hS ?_ ?_ ?_ ?_
      · intro c h1 g1 g2
        exact stop 0 zw v1 (by omega) h1 g1 g2
      · intro c; omega
      · intro c; omega
      · intro c; omega
    | succ n ih =>
      intro zw v1 w0 w1
      have t0 := lgt9 zw (Int64.ofNat 0)
      have e31 := lg_n31 w0
      have t1 := lgt9 (zw &&& (Int64.ofNat 31)) (Int64.ofNat 1)
      have t2 := lgt9 (zw &&& (Int64.ofNat 31)) (Int64.ofNat 26)
      rw [e31] at t1 t2
      rw [c0] at t0
      rw [c1] at t1
      rw [c26] at t2
      refine mt_inB hS ?_ ?_ ?_ ?_
      · intro c h1 g1 g2
        exact stop (n + 1) zw v1 (by omega) h1 g1 g2
      · intro k1 k2 h1 g1 g2
        refine ⟨me_nil g2, Or.inr ⟨rfl, fun q => ?_⟩⟩
        rcases q.1 with q | q
        · omega
        · omega
      · intro k1 k2 k3 h1 g1 g2
        have e := me_nil g2
        subst e
        have sh := lg_shr5 zw
        have p5 : (32 : Int) ^ (n + 1) = 32 ^ n * 32 := Int.pow_succ ..
        refine (ih (zw >>> ((Int32.ofInt ((5 : Int))).toInt64 &&& 63)) v1 (by omega) (by rw [sh]; omega)).imp (fun w h' hq => ?_)
        obtain ⟨r1, r2⟩ := hq
        refine ⟨r1, ?_⟩
        rw [sh] at r2
        rcases r2 with ⟨r2, r3, r4⟩ | ⟨r2, r3⟩
        · exact Or.inl ⟨r2, Or.inr ⟨by omega, by omega, r3⟩, r4⟩
        · refine Or.inr ⟨r2, fun q => r3 ⟨?_, q.2⟩⟩
          rcases q.1 with q | q
          · omega
          · exact q.2.2
      · intro k1 k2 k3 h1 g1 g2
        refine ⟨me_nil g2, Or.inr ⟨rfl, fun q => ?_⟩⟩
        rcases q.1 with q | q
        · omega
        · omega
  have ta := lgt9 zv (Int64.ofNat 1)
  have tb := lgt9 zv (Int64.ofNat 1073741824)
  rw [c1] at ta
  rw [c30] at tb
  refine mt_inA hS ?_ ?_ ?_
  · intro c h1 g1 g2
    refine ⟨me_nil g2, Or.inr ⟨rfl, fun q => ?_⟩⟩
    have := q.1
    omega
  · intro k1 k2 h1 g1 g2
    have e := me_nil g2
    subst e
    have p6 : (32 : Int) ^ 6 = 1073741824 := by decide
    refine (lp 6 zv (by omega) (by omega) (by omega)).imp (fun w h' hq => ?_)
    obtain ⟨r1, r2⟩ := hq
    refine ⟨r1, ?_⟩
    rcases r2 with ⟨r2, r3, r4⟩ | ⟨r2, r3⟩
    · exact Or.inl ⟨r2, by omega, by omega, r3, r4⟩
    · exact Or.inr ⟨r2, fun q => r3 ⟨q.2.2.1, q.2.2.2⟩⟩
  · intro k1 k2 h1 g1 g2
    refine ⟨me_nil g2, Or.inr ⟨rfl, fun q => ?_⟩⟩
    have := q.2.1
    omega
/-- what may be put into a node -/
def st9_f (m : Int) (L : Nat → Int) (x : Int × Int × Int) (v : Int) : Prop := (x.1 % 10 = 2 ∧ 0 ≤ v ∧ v ≤ 9999) ∨ (x.1 % 10 = 3 ∧ nm_ok m L v)
def xs_Q (h : sm_H) (T : List (Int × Int × Int)) (zk : Int) (zv : Int64) (w : Option mi_V) (h' : sm_H) : Prop := ab_Sh sx_sk h' ∧ (((zk < 0 ∨ (T.length : Int) ≤ zk) ∧ mi_f h' 13952 = 1 ∧ w = some (.inl 0) ∧ ab_Fr [(13952, 13953)] h h') ∨ (0 ≤ zk ∧ zk < (T.length : Int) ∧ mi_f h' 13952 = 0 ∧ ∃ x, T[zk.toNat]? = some x ∧ ((st9_f (mi_f h 13962) (tq_L h) x zv.toInt ∧ w = some (.inl 1) ∧ ab_Fr [(13952, 13953), (20736, 20737)] h h' ∧ ∀ i, mx_b h' 162 i = if i = (mi_a h 157 zk.toNat).toNat then zv else mx_b h 162 i) ∨ (¬ st9_f (mi_f h 13962) (tq_L h) x zv.toInt ∧ w = some (.inl 0) ∧ ab_Fr [(13952, 13953)] h h'))))
theorem me_setr {zk : Int} {zv : Int64} (hS : ab_Sh sx_sk h) (hO : tq_O h) (ok : mi_in zk) (hn : mi_f h 14015 = (T.length : Int)) (hT : T ≠ [] → gs_T h T) : me_E (d + 20) 235 0 [some (.inr (.inr 109)), some (.inl zk), some (.inr (.inl zv)), none, none, none] [] h (xs_Q h T zk zv) := by
  have c0 : (Int64.ofNat 0).toInt = 0 := by decide
  have c9 : (Int64.ofNat 9999).toInt = 9999 := by decide
  have t0 := lgt9 zv (Int64.ofNat 0)
  have t9 := lgt9 zv (Int64.ofNat 9999)
  rw [c0] at t0
  rw [c9] at t9
  have bo : 0 ≤ zk → zk < mi_f h 14015 → mi_f h 14015 ≤ 100 → (0 ≤ mi_a h 157 (Int.toNat zk) ∧ mi_a h 157 (Int.toNat zk) ≤ 99) ∧ ∃ x, T[zk.toNat]? = some x ∧ x.1 % 10 = mi_a h 155 (mi_a h 157 (Int.toNat zk)).toNat := fun a b c => by
    have hk : zk.toNat < T.length := by omega
    have hne : T ≠ [] := fun e => by rw [e] at hk; exact absurd hk (Nat.not_lt_zero _)
    have g := (hT hne).2.1 zk.toNat hk
    refine ⟨me_ab (k := 157) (i := zk.toNat) hS rfl (by decide) (by omega), _, g.2.2.1, ?_⟩
    have g2 := g.2.2.2
    show (_ + _) % 10 = _
    omega
  refine mt_seA hS ok ?_ ?_ ?_ ?_ ?_ ?_ ?_
  · intro c h1 g1 g2 g3
    exact ⟨g1, Or.inl ⟨Or.inl c, g2, rfl, g3⟩⟩
  · intro b c1 c2 c3 c4
    obtain ⟨b1, x, x1, x2⟩ := bo c1 c2 b.2
    refine ⟨by omega, fun h1 g1 g2 g3 => ⟨g1, Or.inr ⟨c1, by omega, g2, x, x1, Or.inr ⟨?_, rfl, g3⟩⟩⟩⟩
    rintro (⟨q, -⟩ | ⟨q, -⟩) <;> omega
  · intro b c1 c2 c3 c4
    obtain ⟨b1, x, x1, x2⟩ := bo c1 c2 b.2
    refine ⟨by omega, fun h1 g1 g2 g3 => ?_⟩
    have f2 : mi_f h1 13962 = mi_f h 13962 := me_f (c := 13962) g3 hS rfl rfl
    have eL : tq_L h1 = tq_L h := funext fun k => by
      unfold tq_L
      rw [me_b (k := 118) g3 hS rfl rfl, me_a (k := 117) g3 hS rfl rfl]
    have hO1 : tq_O h1 := by
      unfold tq_O
      rw [f2]
      intro k hk
      rw [me_b (k := 118) g3 hS rfl rfl, me_a (k := 117) g3 hS rfl rfl]
      exact hO k hk
    refine ⟨_, me_isNamer (d := d + 17) g1 hO1, fun w h2 ow hq => ?_⟩
    obtain ⟨e, hq⟩ := hq
    subst e
    rw [f2, eL] at hq
    rcases hq with ⟨rfl, hq⟩ | ⟨rfl, hq⟩
    · refine mt_seB g1 ok (mi_inT _) ⟨by omega, by omega⟩ ?_ ?_
      · intro c; omega
      · intro c
        refine ⟨by omega, fun h3 r1 r2 r3 => ?_⟩
        have F : ab_Fr [(13952, 13953), (20736, 20737)] h h3 := (g3.wide (fun c hc => ab_swr_ok (by decide) hc)).trans (r3.wide (fun c hc => ab_swr_ok (by decide) hc))
        refine ⟨r1, Or.inr ⟨c1, by omega, by rw [me_f (c := 13952) r3 g1 rfl rfl, g2], x, x1, Or.inl ⟨Or.inr ⟨by omega, hq⟩, rfl, F, fun i => ?_⟩⟩⟩
        rw [r2, me_b (k := 162) g3 hS rfl rfl]
    · refine mt_seB g1 ok (mi_inT _) ⟨by omega, by omega⟩ ?_ ?_
      · intro c h3 r1 r2
        have e := me_nil r2
        subst e
        refine ⟨g1, Or.inr ⟨c1, by omega, g2, x, x1, Or.inr ⟨?_, rfl, g3⟩⟩⟩
        rintro (⟨q, -⟩ | ⟨q, q2⟩)
        · omega
        · exact hq q2
      · intro c; omega
  · intro b c1 c2 c3 c4
    obtain ⟨b1, x, x1, x2⟩ := bo c1 c2 b.2
    refine ⟨by omega, fun h1 g1 g2 g3 => ⟨g1, Or.inr ⟨c1, by omega, g2, x, x1, Or.inr ⟨?_, rfl, g3⟩⟩⟩⟩
    rintro (⟨q, q1, q2⟩ | ⟨q, -⟩) <;> omega
  · intro b c1 c2 c3 c4 c5
    obtain ⟨b1, x, x1, x2⟩ := bo c1 c2 b.2
    refine ⟨by omega, fun h1 g1 g2 g3 => ⟨g1, Or.inr ⟨c1, by omega, g2, x, x1, Or.inr ⟨?_, rfl, g3⟩⟩⟩⟩
    rintro (⟨q, q1, q2⟩ | ⟨q, -⟩) <;> omega
  · intro b c1 c2 c3 c4 c5
    obtain ⟨b1, x, x1, x2⟩ := bo c1 c2 b.2
    exact ⟨by omega, fun h1 g1 g2 g3 g4 => ⟨g1, Or.inr ⟨c1, by omega, g2, x, x1, Or.inl ⟨Or.inl ⟨by omega, by omega, by omega⟩, rfl, g4, g3⟩⟩⟩⟩
  · intro b c1 c2 h1 g1 g2 g3
    exact ⟨g1, Or.inl ⟨Or.inr (by omega), g2, rfl, g3⟩⟩
end SETR
