/-! grown -/
section GRO
variable {h : sm_H} {d : Nat} {zu : Int}
def gr_Q (h : sm_H) (s : Int) (w : Option mi_V) (h' : sm_H) : Prop := w = none ∧ ab_Sh sx_sk h' ∧ ab_Fr wr_L h h' ∧ mi_f h' 14034 = mi_f h 14034 ∧ mi_f h' 14033 = mi_f h 14033 ∧ (mi_f h' 14044 = 1 ∨ (mi_f h' 14044 = 0 ∧ wk_leaf 1 s h h'))
theorem gr_node (kd s : Int) {h1 h2 h3 : sm_H} {w : Option mi_V} {v : Int} (hS : ab_Sh sx_sk h) (hk : s = 1 ∧ kd = 2 ∨ s = 2 ∧ kd = 3) (g1 : ab_Sh sx_sk h1) (g2 : ab_Fr [(14047, 14048)] h h1) (q1 : ab_Sh sx_sk h2) (q2 : ab_Fr [(14016, 14017), (14033, 14034), (14044, 14045), (20224, 20225), (20352, 20353), (20480, 20481), (20864, 20865)] h1 h2) (q3 : ((1 : Int) ≠ 2 ∧ mi_f h2 14044 = 1 ∧ w = some (.inl 0) ∧ mi_f h2 14033 = mi_f h1 14033 ∧ mi_f h2 14016 = mi_f h1 14016) ∨ (((1 : Int) = 2 → mi_f h2 14044 = mi_f h1 14044) ∧ ((1 : Int) ≠ 2 → mi_f h2 14044 = 0) ∧ wk_ev 1 kd v h1 h2 ∧ w = some (.inl (wk_n 1 h1)))) (r1 : ab_Sh sx_sk h3) (r3 : ab_Fr [] h2 h3) : gr_Q h s none h3 := by
  have hF : ab_Fr wr_L h h3 := ((g2.wide (fun c hc => ab_swr_ok (by decide) hc)).trans (q2.wide (fun c hc => ab_swr_ok (by decide) hc))).trans (r3.wide (fun c hc => by cases hc))
  have e34 : mi_f h3 14034 = mi_f h 14034 := ((me_f (c := 14034) r3 q1 rfl rfl).trans (me_f (c := 14034) q2 g1 rfl rfl)).trans (me_f (c := 14034) g2 hS rfl rfl)
  have e44 : mi_f h3 14044 = mi_f h2 14044 := me_f (c := 14044) r3 q1 rfl rfl
  have f33 : mi_f h1 14033 = mi_f h 14033 := me_f (c := 14033) g2 hS rfl rfl
  have f16 : mi_f h1 14016 = mi_f h 14016 := me_f (c := 14016) g2 hS rfl rfl
  have k33 : mi_f h3 14033 = mi_f h2 14033 := me_f (c := 14033) r3 q1 rfl rfl
  rcases q3 with q3 | q3
  · exact ⟨rfl, r1, hF, e34, by rw [k33, q3.2.2.2.1, f33], Or.inl (by rw [e44]; exact q3.2.1)⟩
  · obtain ⟨-, p2, p3, -⟩ := q3
    obtain ⟨x1, x2, x3, -⟩ := p3
    obtain ⟨y1, y2, y3⟩ := x3 (by decide)
    have nA : wk_n 1 h1 = wk_n 1 h := by unfold wk_n; rw [f33, f16]
    have nC : wk_n 1 h3 = wk_n 1 h2 := by
      unfold wk_n
      rw [if_neg (by decide), if_neg (by decide)]
      exact me_f (c := 14016) r3 q1 rfl rfl
    have agA : wk_ag 1 (wk_n 1 h) h h1 := wk_ag_fr g2 hS rfl
    have agC : wk_ag 1 (wk_n 1 h2) h2 h3 := wk_ag_fr r3 q1 rfl
    rw [nA] at x1 x2 y1
    have hn0 : 0 ≤ wk_n 1 h := by
      unfold wk_n
      rw [if_neg (by decide)]
      exact (me_fb (c := 14016) hS rfl).1
    have hag : wk_ag 1 (wk_n 1 h) h h3 := (agA.trans x2 (Int.le_refl _)).trans agC (by omega)
    have hlt2 : ((wk_n 1 h).toNat : Int) < wk_n 1 h2 := by omega
    obtain ⟨z1, -⟩ := agC _ hlt2
    refine ⟨rfl, r1, hF, e34, by rw [k33, y3, f33], Or.inr ⟨by rw [e44]; exact p2 (by decide), ?_⟩⟩
    rcases hk with ⟨k1, k2⟩ | ⟨k1, k2⟩
    · exact Or.inl ⟨k1, by rw [nC]; exact x1, hag, fun _ => by rw [z1, y1, k2]⟩
    · exact Or.inr (Or.inl ⟨k1, by rw [nC]; exact x1, hag, fun _ => by rw [z1, y1, k2]⟩)
/-- letters are put behind a name as long as it is a keyword -/
theorem gr_kw (hS : ab_Sh sx_sk h) (hm : mi_f h 14028 = 1) (hu0 : 0 ≤ zu) (hu1 : zu < 60) {zk : Int} (okk : mi_in zk) : ∀ (N : Nat) (zn : Int) (zv : Int64) (h1 : sm_H), 7 - zn < N → 1 ≤ zn → zn ≤ 7 → zv.toBitVec.toNat < 2 ^ (5 * zn.toNat) → (zn = 7 → 2 ^ 30 ≤ zv.toBitVec.toNat) → ab_Sh sx_sk h1 → ab_Fr [(14047, 14048)] h h1 → me_E (d + 1) 215 76 [some (.inr (.inr 109)), some (.inl zu), some (.inl zn), some (.inr (.inl zv)), none, some (.inl zk)] [] h1 (gr_Q h 2) := by
  intro N
  induction N with
  | zero => intro zn zv h1 a1 a2 a3; omega
  | succ N ih =>
    intro zn zv h1 a1 a2 a3 a4 a5 g1 g2
    have oku : mi_in zu := ⟨by omega, by omega⟩
    have okn : mi_in zn := ⟨by omega, by omega⟩
    refine mt_grG g1 oku okn okk ?_
    intro h2 p1 p2
    refine ⟨_, me_keywordOf p1, ?_⟩
    intro w h3 hw hq
    obtain ⟨q1, q2, z, rfl, q3, q4, q5⟩ := hq
    have F3 : ab_Fr [(14047, 14048)] h h3 := (g2.trans (p2.wide (fun c hc => by cases hc))).trans (q2.wide (fun c hc => by cases hc))
    refine mt_grH q1 oku okn okk (hw _ rfl) ?_ ?_
    · intro c1 h4 s1 s2
      have F4 : ab_Fr [(14047, 14048)] h h4 := F3.trans (s2.wide (fun c hc => by cases hc))
      refine ⟨_, me_comes 1 s1 ⟨by decide, by decide⟩ ((me_f (c := 14028) F4 hS rfl rfl).trans hm) (fun e => absurd e (by decide)), ?_⟩
      intro w h5 hw5 hq5
      obtain ⟨t1, t2, t3⟩ := hq5
      have hz : ∃ z, w = some (.inl z) := by
        rcases t3 with t3 | t3
        · exact ⟨_, t3.2.2.1⟩
        · exact ⟨_, t3.2.2.2⟩
      obtain ⟨z2, rfl⟩ := hz
      refine mt_grI t1 oku okn okk (hw5 _ rfl) ?_
      intro h6 u1 u2
      exact gr_node 3 2 hS (Or.inr ⟨rfl, rfl⟩) s1 F4 t1 t2 t3 u1 u2
    · intro c1
      have hkw := q5 c1
      have hb := mx_arrL (a := 118) (n := 20) (lo := -65536) (hi := 1073741823) (ex := []) p1 rfl
      have hlt : zv.toInt ≤ 1073741823 := by
        obtain ⟨f, e1, e2⟩ := hb
        have := (e2 z.toNat (by omega)).2
        unfold mx_b at hkw
        rw [e1] at hkw
        rw [← hkw]
        exact this
      have hle35 : (2 : Nat) ^ (5 * zn.toNat) ≤ 2 ^ 35 := Nat.pow_le_pow_right (by decide) (by omega)
      have e0 : zv.toInt = (zv.toBitVec.toNat : Int) := by
        show zv.toBitVec.toInt = _
        exact BitVec.toInt_eq_toNat_of_lt (by omega)
      have hn6 : zn ≤ 6 := by
        rcases Int.lt_or_eq_of_le a3 with e | e
        · omega
        · have := a5 e
          omega
      refine ⟨by omega, fun h4 s1 s2 => ?_⟩
      have F4 : ab_Fr [(14047, 14048)] h h4 := F3.trans (s2.wide (fun c hc => by cases hc))
      have key : ∀ k : Nat, zn = (k : Int) → 1 ≤ k → k ≤ 6 → (zv ||| (Int64.ofNat 26) <<< ((Int32.ofInt (((5 : Int)) * zn)).toInt64 &&& 63)).toBitVec.toNat < 2 ^ (5 * (zn + 1).toNat) ∧ (zn + 1 = 7 → 2 ^ 30 ≤ (zv ||| (Int64.ofNat 26) <<< ((Int32.ofInt (((5 : Int)) * zn)).toInt64 &&& 63)).toBitVec.toNat) := by
        intro k hk k1 k6
        have hc : k = 1 ∨ k = 2 ∨ k = 3 ∨ k = 4 ∨ k = 5 ∨ k = 6 := by omega
        have hs : ((Int64.ofNat 26) <<< ((Int32.ofInt (((5 : Int)) * zn)).toInt64 &&& 63)).toBitVec.toNat = 26 * 2 ^ (5 * k) := by
          rw [hk]
          rcases hc with rfl | rfl | rfl | rfl | rfl | rfl <;> decide
        have e2 : 5 * (zn + 1).toNat = 5 * k + 5 := by omega
        have e3 : 5 * zn.toNat = 5 * k := by omega
        rw [e3] at a4
        refine ⟨?_, fun h7 => ?_⟩
        · rw [e2]
          refine lg_or (Nat.lt_of_lt_of_le a4 (Nat.pow_le_pow_right (by decide) (by omega))) ?_
          rw [hs, Nat.pow_add]
          have := Nat.two_pow_pos (5 * k)
          omega
        · rw [Int64.toBitVec_or, BitVec.toNat_or, hs]
          have k6 : k = 6 := by omega
          subst k6
          exact Nat.le_trans (by decide) Nat.right_le_or
      obtain ⟨b1, b2⟩ := key zn.toNat (by omega) (by omega) (by omega)
      exact ih _ _ h4 (by omega) (by omega) (by omega) b1 b2 s1 F4
theorem gr_let (hS : ab_Sh sx_sk h) (hm : mi_f h 14028 = 1) (hu0 : 0 ≤ zu) (hu1 : zu < 60) {zn : Int} (hn0 : 1 ≤ zn) (hn1 : zn ≤ 3) : ∀ (N : Nat) (zk : Int) (zv : Int64) (h1 : sm_H), zn - zk < N → 0 ≤ zk → zk ≤ zn → zv.toBitVec.toNat < 2 ^ (5 * zk.toNat) → ab_Sh sx_sk h1 → ab_Fr [(14047, 14048)] h h1 → me_E (d + 1) 215 48 [some (.inr (.inr 109)), some (.inl zu), some (.inl zn), some (.inr (.inl zv)), none, some (.inl zk)] [] h1 (gr_Q h 2) := by
  intro N
  induction N with
  | zero => intro zk zv h1 a1 a2 a3; omega
  | succ N ih =>
    intro zk zv h1 a1 a2 a3 a4 g1 g2
    have oku : mi_in zu := ⟨by omega, by omega⟩
    have okn : mi_in zn := ⟨by omega, by omega⟩
    have okk : mi_in zk := ⟨by omega, by omega⟩
    refine mt_grE g1 oku okn okk ?_ ?_
    · intro c1 h2 p1 p2
      have ek : zk = zn := by omega
      subst ek
      exact gr_kw hS hm hu0 hu1 okk 10 zk zv h2 (by omega) hn0 (by omega) a4 (fun e => by omega) p1 (g2.trans (p2.wide (fun c hc => by cases hc)))
    · intro c1 h2 p1 p2
      refine ⟨_, me_draw p1 (by decide) (by decide), ?_⟩
      intro w h3 hw hq
      obtain ⟨q1, q2, z, rfl, q3, q4⟩ := hq
      have F3 : ab_Fr [(14047, 14048)] h h3 := (g2.trans (p2.wide (fun c hc => by cases hc))).trans q2
      refine mt_grF q1 oku okn okk (hw _ rfl) ?_
      refine ⟨by omega, fun h4 s1 s2 => ?_⟩
      have F4 : ab_Fr [(14047, 14048)] h h4 := F3.trans (s2.wide (fun c hc => by cases hc))
      have hz : z = 0 ∨ z = 1 ∨ z = 2 := by omega
      have hk : zk = 0 ∨ zk = 1 ∨ zk = 2 := by omega
      have hsm : ((Int64.ofNat 1 + (Int32.ofInt z).toInt64) <<< ((Int32.ofInt (((5 : Int)) * zk)).toInt64 &&& 63)).toBitVec.toNat < 2 ^ (5 * zk.toNat + 5) := by
        rcases hk with rfl | rfl | rfl <;> rcases hz with rfl | rfl | rfl <;> decide
      refine ih _ _ h4 (by omega) (by omega) (by omega) ?_ s1 F4
      have e : 5 * (zk + 1).toNat = 5 * zk.toNat + 5 := by omega
      rw [e]
      exact lg_or (Nat.lt_of_lt_of_le a4 (Nat.pow_le_pow_right (by decide) (by omega))) hsm
theorem me_grown (hS : ab_Sh sx_sk h) (hm : mi_f h 14028 = 1) (hu0 : 0 ≤ zu) (hu1 : zu < 60) (hs : mi_a h 119 zu.toNat = 1 ∨ mi_a h 119 zu.toNat = 2 ∨ mi_a h 119 zu.toNat = 8) (hp : mi_f h 14044 = 0) : me_E (d + 1) 215 0 [some (.inr (.inr 109)), some (.inl zu), none, none, none, none] [] h (gr_Q h (mi_a h 119 zu.toNat)) := by
  have ok : mi_in zu := ⟨by omega, by omega⟩
  refine mt_grA hS ok ?_ ?_ ?_
  · intro c1 c2
    refine ⟨by omega, fun h1 g1 g2 => ⟨_, me_draw g1 (by decide) (by decide), ?_⟩⟩
    intro w h2 hw hq
    obtain ⟨q1, q2, z, rfl, q3, q4⟩ := hq
    refine mt_grD q1 ok (hw _ rfl) ⟨by decide, by decide⟩ ?_
    refine ⟨by omega, fun h3 r1 r2 => ?_⟩
    rw [c2]
    exact gr_let hS hm hu0 hu1 (by omega) (by omega) 10 0 (Int64.ofNat 0) h3 (by omega) (by omega) (by omega) (by decide) r1 (((g2.wide (fun c hc => by cases hc)).trans q2).trans (r2.wide (fun c hc => by cases hc)))
  · intro c1 c2
    refine ⟨by omega, fun h1 g1 g2 => ?_⟩
    refine ⟨rfl, g1, g2.wide (fun c hc => by cases hc), me_f (c := 14034) g2 hS rfl rfl, me_f (c := 14033) g2 hS rfl rfl, Or.inr ⟨(me_f (c := 14044) g2 hS rfl rfl).trans hp, Or.inr (Or.inr ⟨by omega, ?_, wk_ag_fr g2 hS rfl⟩)⟩⟩
    exact wk_ne_n (wk_ne_fr g2 hS rfl)
  · intro c1
    refine ⟨by omega, fun h1 g1 g2 => ⟨_, me_draw g1 (by decide) (by decide), ?_⟩⟩
    intro w h2 hw hq
    obtain ⟨q1, q2, z, rfl, q3, q4⟩ := hq
    refine mt_grB q1 ok (hw _ rfl) ⟨by decide, by decide⟩ ?_
    intro h3 r1 r2
    have F3 : ab_Fr [(14047, 14048)] h h3 := ((g2.wide (fun c hc => by cases hc)).trans q2).trans (r2.wide (fun c hc => by cases hc))
    refine ⟨_, me_comes 1 r1 ⟨by decide, by decide⟩ ((me_f (c := 14028) F3 hS rfl rfl).trans hm) (fun e => absurd e (by decide)), ?_⟩
    intro w h4 hw4 hq4
    obtain ⟨t1, t2, t3⟩ := hq4
    have hz : ∃ z, w = some (.inl z) := by
      rcases t3 with t3 | t3
      · exact ⟨_, t3.2.2.1⟩
      · exact ⟨_, t3.2.2.2⟩
    obtain ⟨z2, rfl⟩ := hz
    have e119 : mi_a h4 119 zu.toNat = mi_a h 119 zu.toNat := (me_a (k := 119) t2 r1 rfl rfl).trans (me_a (k := 119) F3 hS rfl rfl)
    refine mt_grC t1 ok (hw4 _ rfl) ?_ ?_
    · intro c2
      exfalso; omega
    · intro c2
      refine ⟨by omega, fun h5 u1 u2 => ?_⟩
      exact gr_node 2 _ hS (Or.inl ⟨c1, rfl⟩) r1 F3 t1 t2 t3 u1 u2
end GRO
