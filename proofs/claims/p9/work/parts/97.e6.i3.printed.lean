/-! the reference's walk that prints: what each turn does to what is printed -/
/-- a value, in the order in which the nodes were made -/
def yv (h : sm_H) (c : Int) : Int := (mx_b h 162 c.toNat).toInt
/-- what is known of a leaf -/
def yl (h : sm_H) (u c : Int) : Prop := (mi_a h 119 u.toNat = 1 → 0 ≤ yv h c ∧ yv h c ≤ 9999 ∧ 0 ≤ mi_a h 120 u.toNat ∧ mi_a h 120 u.toNat ≤ 9) ∧ (mi_a h 119 u.toNat = 2 → 0 < yv h c ∧ yv h c < 1073741824) ∧ (mi_a h 119 u.toNat = 8 → 0 ≤ (mx_b h 118 (mi_a h 120 u.toNat).toNat).toInt ∧ (mx_b h 118 (mi_a h 120 u.toNat).toNat).toInt < 1073741824 ∧ 0 ≤ mi_a h 117 (mi_a h 120 u.toNat).toNat) ∧ (mi_a h 119 u.toNat = 1 ∨ mi_a h 119 u.toNat = 2 → 0 ≤ c ∧ c < 100)
/-- what is printed of a unit by itself -/
def ye (h : sm_H) (u c : Int) (o : ox) : Option ox := if mi_a h 119 u.toNat = 9 ∨ mi_a h 119 u.toNat = 10 then some o else oev (tq_L h) (mi_a h 119 u.toNat) (mi_a h 120 u.toNat) (yv h c) o
def yo (h : sm_H) (o : ox) : Prop := ab_Sh sx_sk h ∧ mi_f h 14028 = 2 ∧ oR h (some o) ∧ 0 ≤ mi_f h 14036 ∧ mi_f h 14036 ≤ 99999 ∧ 0 ≤ mi_f h 14029 ∧ 0 ≤ mi_f h 14032 ∧ mi_f h 14032 ≤ 12 ∧ 0 ≤ mi_f h 14033 ∧ mi_f h 14033 ≤ 100
def yQ (h : sm_H) (y : Option ox) (w : Option mi_V) (h' : sm_H) : Prop := w = none ∧ ab_Sh sx_sk h' ∧ oR h' y ∧ 0 ≤ mi_f h' 14036 ∧ mi_f h' 14036 ≤ mi_f h 14036 + 1
section PRO
variable {h : sm_H} {d : Nat} {zu : Int} {o : ox}
theorem me_comeso {zk : Int} {zv : Int64} (hS : ab_Sh sx_sk h) (hm : mi_f h 14028 = 2) (ok : mi_in zk) (n0 : 0 ≤ mi_f h 14033) (n1 : mi_f h 14033 ≤ 1000) : me_E d 208 0 [some (.inr (.inr 109)), some (.inl zk), some (.inr (.inl zv)), none] [] h (fun w h' => (∃ z, w = some (.inl z)) ∧ ab_Sh sx_sk h' ∧ ab_Fr [(14033, 14034)] h h' ∧ mi_f h' 14033 = mi_f h 14033 + 1) := by
  refine mt_comes hS ok (by intros; exfalso; omega) (by intros; exfalso; omega) ?_
  intro b1 b2 c
  exact ⟨by omega, fun h1 g1 g2 g3 => ⟨⟨_, rfl⟩, g1, g3, g2⟩⟩
theorem yQ_fr {wr : List (Nat × Nat)} {h' : sm_H} {y : Option ox} (hR : oR h y) (i0 : 0 ≤ mi_f h 14036) (g1 : ab_Sh sx_sk h') (hF : ab_Fr wr h h') (hS : ab_Sh sx_sk h) (hw : (ab_in wr 14036 || ab_in wr 14037 || ab_in wr 14044 || ab_in wr 14045 || ab_in wr 14046 || ab_in wr 21760) = false) : yQ h y none h' := by
  have w1 : ab_in wr 14036 = false := by
    simp only [Bool.or_eq_false_iff] at hw
    exact hw.1.1.1.1.1
  have e := me_f (c := 14036) hF hS rfl w1
  exact ⟨rfl, g1, oR_fr hR hF hS hw, by omega, by omega⟩
/-- passed is put to no again -/
theorem oR_0 {h' : sm_H} {wr : List (Nat × Nat)} (hR : oR h (some o)) (h44 : mi_f h' 14044 = 0) (hF : ab_Fr wr h h') (hS : ab_Sh sx_sk h) (hw : (ab_in wr 14036 || ab_in wr 14037 || ab_in wr 14045 || ab_in wr 14046 || ab_in wr 21760) = false) : oR h' (some o) := by
  simp only [Bool.or_eq_false_iff] at hw
  obtain ⟨⟨⟨⟨w1, w2⟩, w4⟩, w5⟩, w6⟩ := hw
  obtain ⟨-, c1, c2, c3, c4, c5⟩ := oR_len hR
  exact Or.inr ⟨o, rfl, h44, (me_f (c := 14037) hF hS rfl w2).trans c1, fun k hk => by rw [me_a (k := 170) hF hS rfl w6]; exact c2 k hk, (me_f (c := 14045) hF hS rfl w4).trans c3, (me_f (c := 14046) hF hS rfl w5).trans c4, (me_f (c := 14036) hF hS rfl w1).trans c5⟩
theorem me_entero {zr : Int} (hi : yo h o) (ht : mi_f h 14029 ≤ 2990) (r0 : 0 ≤ zr) (r1 : zr < 10) : me_E (d + 2) 207 0 [some (.inr (.inr 109)), some (.inl zr)] [] h (yQ h (some o)) := by
  obtain ⟨hS, hm, hR, i0, i1, t0, u0, u1, n0, n1⟩ := hi
  have ok : mi_in zr := ⟨by omega, by omega⟩
  have go : ∀ h1, ab_Sh sx_sk h1 → mi_f h1 14035 = (Int32.ofInt (mi_f h 14035) - Int32.ofInt ((1 : Int))).toInt → mi_f h1 14044 = ((0 : Int)) → ab_Fr [(14035, 14036), (14044, 14045)] h h1 → ∃ Q1, me_E (d + 1) 208 0 (mi_entry 4 [.inr (.inr 109), .inl ((1 : Int)), .inr (.inl ((Int32.ofInt zr).toInt64))]) [] h1 Q1 ∧ ∀ w h2, (∀ x, w = some x → mi_ok x) → Q1 w h2 → me_E (d + 2) 207 51 [some (.inr (.inr 109)), some (.inl zr)] (mi_back w []) h2 (yQ h (some o)) := by
    intro h1 g1 g2 g3 g4
    refine ⟨_, me_comeso g1 ((me_f (c := 14028) g4 hS rfl rfl).trans hm) ⟨by decide, by decide⟩ (by rw [me_f (c := 14033) g4 hS rfl rfl]; exact n0) (by rw [me_f (c := 14033) g4 hS rfl rfl]; omega), fun w h2 hw hq => ?_⟩
    obtain ⟨⟨z, rfl⟩, q1, q2, q3⟩ := hq
    have e29 : mi_f h2 14029 = mi_f h 14029 := (me_f (c := 14029) q2 g1 rfl rfl).trans (me_f (c := 14029) g4 hS rfl rfl)
    have e32 : mi_f h2 14032 = mi_f h 14032 := (me_f (c := 14032) q2 g1 rfl rfl).trans (me_f (c := 14032) g4 hS rfl rfl)
    have e36 : mi_f h2 14036 = mi_f h 14036 := (me_f (c := 14036) q2 g1 rfl rfl).trans (me_f (c := 14036) g4 hS rfl rfl)
    refine mt_enB q1 ok (hw _ rfl) ?_
    intro b1 b2
    refine ⟨by omega, fun h3 s1 s2 s3 s4 s5 s6 s7 s8 => ?_⟩
    have R1 : oR h1 (some o) := oR_0 hR g3 g4 hS rfl
    have R2 : oR h2 (some o) := oR_fr R1 q2 g1 rfl
    have := yQ_fr R2 (by omega) s1 s8 q1 rfl
    exact ⟨this.1, this.2.1, this.2.2.1, this.2.2.2.1, by have := this.2.2.2.2; omega⟩
  refine mt_enA hS ok ?_ ?_ (by intros; exfalso; omega)
  · intro b c
    exact go
  · intro b b2 c c2
    exact go
theorem me_singleo (hi : yo h o) (hu : wk_us h zu) (hl : yl h zu (mi_f h 14033)) (ht : mi_f h 14029 ≤ 2990) : me_E (d + 5) 213 0 [some (.inr (.inr 109)), some (.inl zu)] [] h (yQ h (ye h zu (mi_f h 14033) o)) := by
  obtain ⟨hS, hm, hR, i0, i1, t0, u0, u1, n0, n1⟩ := id hi
  have hu0 := hu.1
  have hu1 := hu.2.1
  have ok : mi_in zu := ⟨by omega, by omega⟩
  -- a token
  have tk : (mi_a h 119 zu.toNat = 1 ∨ mi_a h 119 zu.toNat = 2 ∨ mi_a h 119 zu.toNat = 8) → ∀ h1, ab_Sh sx_sk h1 → ab_Fr [] h h1 → ∃ Q1, me_E (d + 4) 217 0 (mi_entry 7 [.inr (.inr 109), .inl zu]) [] h1 Q1 ∧ ∀ w h2, (∀ x, w = some x → mi_ok x) → Q1 w h2 → me_E (d + 5) 213 129 [some (.inr (.inr 109)), some (.inl zu)] (mi_back w []) h2 (yQ h (ye h zu (mi_f h 14033) o)) := by
    intro hs h1 g1 g2
    have e := me_nil g2
    subst e
    refine ⟨_, me_shownx (d := d) g1 hu0 hu1 hs (fun q => ⟨hu.2.2.2 q, hl.2.2.1 q⟩) (fun q => hl.2.2.2 (by omega)) hl.1 hl.2.1 i0 (by omega) hR, fun w h2 hw hq => ?_⟩
    obtain ⟨rfl, q1, q2, -, q3⟩ := hq
    refine mt_sr129 q1 ok ?_
    intro h3 r1 r2
    have e := me_nil r2
    subst e
    have e36 : mi_f h3 14036 = mi_f h1 14036 := me_f (c := 14036) q2 g1 rfl rfl
    refine ⟨rfl, r1, ?_, by omega, by omega⟩
    unfold ye
    rw [if_neg (by omega)]
    unfold oev
    rw [if_pos hs]
    exact q3
  -- no token
  have ly : mi_a h 119 zu.toNat ≠ 1 → mi_a h 119 zu.toNat ≠ 2 → mi_a h 119 zu.toNat ≠ 8 → mi_a h 119 zu.toNat ≠ 9 → mi_a h 119 zu.toNat ≠ 10 → ∀ h1, ab_Sh sx_sk h1 → ab_Fr [] h h1 → ∃ Q1, me_E (d + 4) 222 0 (mi_entry 2 [.inr (.inr 109), .inl (mi_a h 119 zu.toNat)]) [] h1 Q1 ∧ ∀ w h2, (∀ x, w = some x → mi_ok x) → Q1 w h2 → me_E (d + 5) 213 142 [some (.inr (.inr 109)), some (.inl zu)] (mi_back w []) h2 (yQ h (ye h zu (mi_f h 14033) o)) := by
    intro s1 s2 s8 s9 s10 h1 g1 g2
    have e := me_nil g2
    subst e
    refine ⟨_, me_lyx (d := d + 4) g1 (mi_inT _) i0 (by omega) hR, fun w h2 hw hq => ?_⟩
    obtain ⟨rfl, q1, q2, q3, q4, q5⟩ := hq
    refine mt_sr142 q1 ok ?_
    intro h3 r1 r2
    have e := me_nil r2
    subst e
    refine ⟨rfl, r1, ?_, q4, q5⟩
    unfold ye
    rw [if_neg (by omega)]
    unfold oev
    rw [if_neg (by omega)]
    exact q3
  have l16 : (mi_a h 119 zu.toNat < 1 ∨ 10 < mi_a h 119 zu.toNat) ∨ (3 ≤ mi_a h 119 zu.toNat ∧ mi_a h 119 zu.toNat ≤ 7) → _ := fun q => ly (by omega) (by omega) (by omega) (by omega) (by omega)
  refine mt_sg hS ok ?_ (by intros; exfalso; omega) (by intros; exfalso; omega) ?_ (by intros; exfalso; omega) (by intros; exfalso; omega) ?_ ?_ ?_ ?_ ?_ ?_ (by intros; exfalso; omega) (by intros; exfalso; omega) ?_ ?_ ?_
  · intro b c1 c2 c3
    exact ⟨by omega, tk (by omega)⟩
  · intro b c1 c2 c3
    exact ⟨by omega, tk (by omega)⟩
  · intro c1
    exact ⟨by omega, ly (by omega) (by omega) (by omega) (by omega) (by omega)⟩
  · intro c1
    exact ⟨by omega, ly (by omega) (by omega) (by omega) (by omega) (by omega)⟩
  · intro c1
    exact ⟨by omega, ly (by omega) (by omega) (by omega) (by omega) (by omega)⟩
  · intro c1
    exact ⟨by omega, ly (by omega) (by omega) (by omega) (by omega) (by omega)⟩
  · intro c1
    exact ⟨by omega, ly (by omega) (by omega) (by omega) (by omega) (by omega)⟩
  · intro b c1 c2 c3
    exact ⟨by omega, tk (by omega)⟩
  · intro c1
    obtain ⟨x1, x2, x3, x4⟩ := hu.2.2.1 (by omega)
    refine ⟨by omega, fun h1 g1 g2 => ?_⟩
    have e := me_nil g2
    subst e
    refine ⟨_, me_entero (d := d + 2) hi ht x3 x4, fun w h2 hw hq => ?_⟩
    have e := hq.1
    subst e
    refine mt_sr75 hq.2.1 ok ?_
    intro h3 r1 r2
    have e := me_nil r2
    subst e
    unfold ye
    rw [if_pos (by omega)]
    exact hq
  · intro b c1
    refine ⟨by omega, fun h1 g1 g2 a5 a6 a7 g3 => ?_⟩
    unfold ye
    rw [if_pos (by omega)]
    exact yQ_fr hR i0 g1 g3 hS rfl
  · intro c1
    exact ⟨by omega, ly (by omega) (by omega) (by omega) (by omega) (by omega)⟩
/-- what is looked at does not change -/
theorem ye_fr {wr : List (Nat × Nat)} {h' : sm_H} {u c : Int} {y : ox} (hF : ab_Fr wr h h') (hS : ab_Sh sx_sk h) (w1 : ab_in wr 15232 = false) (w2 : ab_in wr 15360 = false) (w3 : ab_in wr 20736 = false) (w4 : ab_in wr 14976 = false) (w5 : ab_in wr 15104 = false) : ye h' u c y = ye h u c y ∧ (yl h u c → yl h' u c) := by
  have e1 : ∀ i, mi_a h' 119 i = mi_a h 119 i := fun i => me_a (k := 119) hF hS rfl w1
  have e2 : ∀ i, mi_a h' 120 i = mi_a h 120 i := fun i => me_a (k := 120) hF hS rfl w2
  have e3 : ∀ i, mx_b h' 162 i = mx_b h 162 i := fun i => me_b (k := 162) hF hS rfl w3
  have e4 : ∀ i, mi_a h' 117 i = mi_a h 117 i := fun i => me_a (k := 117) hF hS rfl w4
  have e5 : ∀ i, mx_b h' 118 i = mx_b h 118 i := fun i => me_b (k := 118) hF hS rfl w5
  have eL : tq_L h' = tq_L h := funext fun k => by unfold tq_L; rw [e5, e4]
  refine ⟨?_, fun q => ?_⟩
  · unfold ye yv
    rw [e1, e2, e3, eL]
  · unfold yl yv at q ⊢
    rw [e1, e2, e3, e5, e4]
    exact q
theorem me_againo {za : Int} (hi : yo h o) (hu : wk_us h zu) (oa : mi_in za) (hl : 0 < za → yl h zu (mi_f h 14033)) (ht : mi_f h 14029 ≤ 2985) : me_E (d + 6) 227 0 [some (.inr (.inr 109)), some (.inl zu), some (.inl za), none] [] h (yQ h (if 0 < za then ye h zu (mi_f h 14033) o else some o)) := by
  obtain ⟨hS, hm, hR, i0, i1, t0, u0, u1, n0, n1⟩ := id hi
  have ok : mi_in zu := ⟨by have := hu.1; omega, by have := hu.2.1; omega⟩
  have oa0 := oa.1
  have oa1 := oa.2
  refine mt_agA hS ok oa ?_ ?_ (by intros; exfalso; omega)
  · intro b c1 c2 h1 g1 g2
    rw [if_neg (by omega)]
    exact yQ_fr hR i0 g1 g2 hS rfl
  · intro b b2 c1 c2
    refine ⟨by omega, fun h1 g1 g2 a5 a6 a7 g3 => ?_⟩
    rw [if_pos c2]
    have hg : wk_gc (mi_a h) (mi_a h1) := wk_gc_fr g3 hS rfl
    have hu1' : wk_us h1 zu := by
      unfold wk_us
      rw [hg 119 (by decide), hg 120 (by decide), hg 115 (by decide)]
      exact hu
    obtain ⟨k1, k2⟩ := ye_fr (u := zu) (c := mi_f h 14033) (y := o) g3 hS rfl rfl rfl rfl rfl
    have f33 : mi_f h1 14033 = mi_f h 14033 := me_f (c := 14033) g3 hS rfl rfl
    have f36 : mi_f h1 14036 = mi_f h 14036 := me_f (c := 14036) g3 hS rfl rfl
    have f32 : mi_f h1 14032 = mi_f h 14032 := me_f (c := 14032) g3 hS rfl rfl
    refine ⟨_, me_singleo (d := d) (o := o) ⟨g1, (me_f (c := 14028) g3 hS rfl rfl).trans hm, oR_fr hR g3 hS rfl, by omega, by omega, by omega, by omega, by omega, by omega, by omega⟩ hu1' (by rw [f33]; exact k2 (hl c2)) (by omega), fun w h2 hw hq => ?_⟩
    rw [f33, k1] at hq
    have e := hq.1
    subst e
    refine mt_agC hq.2.1 ok oa ⟨by decide, by decide⟩ ?_
    intro h3 r1 r2
    have e := me_nil r2
    subst e
    exact ⟨rfl, r1, hq.2.2.1, hq.2.2.2.1, by have := hq.2.2.2.2; omega⟩
theorem lg_i32 {x : Int64} (h0 : 0 ≤ x.toInt) (h1 : x.toInt ≤ 1000000) : x.toInt32.toInt = x.toInt := by
  rw [Int64.toInt_toInt32]
  exact Int.bmod_eq_of_le (by omega) (by omega)
/-- what is printed of a unit -/
def yu (h : sm_H) (u c : Int) (o : ox) : Option ox := if mi_a h 122 u.toNat = 1 then some o else if mi_a h 122 u.toNat = 2 then (if 0 < yv h c then ye h u (c + 1) o else some o) else ye h u c o
theorem me_unito {zo : Int} (hi : yo h o) (hu : wk_us h zu) (ht : mi_f h 14029 ≤ 2985) (hz : zo = 0 ∨ zo = 1) (hp : zo = 1 → 0 ≤ mi_f h 14030 ∧ mi_f h 14030 < 64) (hv : (mi_a h 122 zu.toNat = 1 ∨ mi_a h 122 zu.toNat = 2) → (0 ≤ yv h (mi_f h 14033) ∧ yv h (mi_f h 14033) ≤ 1000000) ∧ mi_f h 14033 < 100) (hl1 : mi_a h 122 zu.toNat = 2 → 0 < yv h (mi_f h 14033) → yl h zu (mi_f h 14033 + 1)) (hl0 : mi_a h 122 zu.toNat ≠ 1 → mi_a h 122 zu.toNat ≠ 2 → yl h zu (mi_f h 14033)) : me_E (d + 6) 210 0 [some (.inr (.inr 109)), some (.inl zu), some (.inl zo), none, none] [] h (yQ h (yu h zu (mi_f h 14033) o)) := by
  obtain ⟨hS0, hm0, hR0, -, -, -, -, -, -, -⟩ := id hi
  have hu0 := hu.1
  have hu1 := hu.2.1
  have ok : mi_in zu := ⟨by omega, by omega⟩
  have oo : mi_in zo := ⟨by omega, by omega⟩
  -- from 24 on
  have go24 : ∀ h1, ab_Sh sx_sk h1 → ab_Fr [(14030, 14031), (21504, 21505)] h h1 → me_E (d + 6) 210 24 [some (.inr (.inr 109)), some (.inl zu), some (.inl zo), none, none] [] h1 (yQ h (yu h zu (mi_f h 14033) o)) := by
    intro h1 hS g2
    have hg : wk_gc (mi_a h) (mi_a h1) := wk_gc_fr g2 hS0 rfl
    have hus : wk_us h1 zu := by
      unfold wk_us
      rw [hg 119 (by decide), hg 120 (by decide), hg 115 (by decide)]
      exact hu
    have f33 : mi_f h1 14033 = mi_f h 14033 := me_f (c := 14033) g2 hS0 rfl rfl
    have f36 : mi_f h1 14036 = mi_f h 14036 := me_f (c := 14036) g2 hS0 rfl rfl
    have f32 : mi_f h1 14032 = mi_f h 14032 := me_f (c := 14032) g2 hS0 rfl rfl
    have f29 : mi_f h1 14029 = mi_f h 14029 := me_f (c := 14029) g2 hS0 rfl rfl
    have hm : mi_f h1 14028 = 2 := (me_f (c := 14028) g2 hS0 rfl rfl).trans hm0
    have hR : oR h1 (some o) := oR_fr hR0 g2 hS0 rfl
    obtain ⟨-, -, -, i0, i1, t0, u0, u1, n0, n1⟩ := id hi
    have e122 : mi_a h1 122 zu.toNat = mi_a h 122 zu.toNat := hg 122 (by decide) _
    have ev : mx_b h1 162 (mi_f h1 14033).toNat = mx_b h 162 (mi_f h 14033).toNat := by rw [f33]; exact me_b (k := 162) g2 hS0 rfl rfl
    have fin : ∀ {y : Option ox} {w : Option mi_V} {h' : sm_H}, yQ h1 y w h' → yQ h y w h' := fun q => ⟨q.1, q.2.1, q.2.2.1, q.2.2.2.1, by have := q.2.2.2.2; omega⟩
    refine mt_unB hS ok oo ?_ (by intros; exfalso; omega) ?_ (by intros; exfalso; omega) (by intros; exfalso; omega) (by intros; exfalso; omega) ?_ (by intros; exfalso; omega) (by intros; exfalso; omega)
    · intro c1 c2
      refine ⟨by omega, fun h2 r1 r2 => ?_⟩
      have e := me_nil r2
      subst e
      obtain ⟨k1, k2⟩ := ye_fr (u := zu) (c := mi_f h 14033) (y := o) g2 hS0 rfl rfl rfl rfl rfl
      refine ⟨_, me_singleo (d := d) (o := o) ⟨r1, hm, hR, by omega, by omega, by omega, by omega, by omega, by omega, by omega⟩ hus (by rw [f33]; exact k2 (hl0 (by rw [← e122]; exact c1) (by rw [← e122]; exact c2))) (by omega), fun w h3 hw hq => ?_⟩
      rw [f33, k1] at hq
      have e := hq.1
      subst e
      refine mt_unK hq.2.1 ok oo ?_
      intro h4 s1 s2
      have e := me_nil s2
      subst e
      unfold yu
      rw [if_neg (by rw [← e122]; exact c1), if_neg (by rw [← e122]; exact c2)]
      exact fin hq
    · intro b b2 c1 c2 c3 c4
      rw [e122] at c1 c2
      obtain ⟨⟨v0, v1⟩, n2⟩ := hv (Or.inr c2)
      refine ⟨by omega, fun h2 r1 r2 => ?_⟩
      have e := me_nil r2
      subst e
      rw [ev, lg_i32 v0 v1]
      have on : mi_in (mx_b h 162 (mi_f h 14033).toNat).toInt := ⟨by unfold yv at v0 v1; omega, by unfold yv at v0 v1; omega⟩
      refine mt_unH r1 ok oo on ?_
      intro h3 s1 s2
      have e := me_nil s2
      subst e
      refine ⟨_, me_comeso (d := d + 5) s1 hm ⟨by decide, by decide⟩ (by omega) (by omega), fun w h4 hw hq => ?_⟩
      obtain ⟨⟨z, rfl⟩, q1, q2, q3⟩ := hq
      have e29 : mi_f h4 14029 = mi_f h 14029 := (me_f (c := 14029) q2 s1 rfl rfl).trans f29
      have R4 : oR h4 (some o) := oR_fr hR q2 s1 rfl
      have e36 : mi_f h4 14036 = mi_f h 14036 := (me_f (c := 14036) q2 s1 rfl rfl).trans f36
      have e44 := (oR_len R4).1
      refine mt_unI q1 ok oo on (hw _ rfl) ?_ (by intros; exfalso; omega) ?_
      · intro b3 c5
        refine ⟨by omega, fun h5 t1 t2 t3 a5 a6 a7 t4 => ?_⟩
        unfold yu yv
        rw [if_neg c1, if_pos c2, if_neg (by omega)]
        have := yQ_fr R4 (by omega) t1 t4 q1 rfl
        exact ⟨this.1, this.2.1, this.2.2.1, this.2.2.2.1, by have := this.2.2.2.2; omega⟩
      · intro b3 b4 c5 c6
        refine ⟨by omega, fun h5 t1 t2 t3 a5 a6 a7 t4 => ?_⟩
        have F5 : ab_Fr [(14029, 14030), (14030, 14032), (14033, 14034), (21120, 21121), (21248, 21249), (21376, 21377), (21504, 21505)] h h5 := ((g2.wide (fun c hc => ab_swr_ok (by decide) hc)).trans (q2.wide (fun c hc => ab_swr_ok (by decide) hc))).trans (t4.wide (fun c hc => ab_swr_ok (by decide) hc))
        have hg5 : wk_gc (mi_a h) (mi_a h5) := wk_gc_fr F5 hS0 rfl
        have hus5 : wk_us h5 zu := by
          unfold wk_us
          rw [hg5 119 (by decide), hg5 120 (by decide), hg5 115 (by decide)]
          exact hu
        obtain ⟨k1, k2⟩ := ye_fr (u := zu) (c := mi_f h 14033 + 1) (y := o) F5 hS0 rfl rfl rfl rfl rfl
        have e33 : mi_f h5 14033 = mi_f h 14033 + 1 := by rw [me_f (c := 14033) t4 q1 rfl rfl, q3, f33]
        have g36 : mi_f h5 14036 = mi_f h 14036 := me_f (c := 14036) F5 hS0 rfl rfl
        have g32 : mi_f h5 14032 = mi_f h 14032 := me_f (c := 14032) F5 hS0 rfl rfl
        refine ⟨_, me_singleo (d := d) (o := o) ⟨t1, (me_f (c := 14028) F5 hS0 rfl rfl).trans hm0, oR_fr R4 t4 q1 rfl, by omega, by omega, by omega, by omega, by omega, by omega, by omega⟩ hus5 (by rw [e33]; exact k2 (hl1 c2 c5)) (by omega), fun w h6 hw6 hq => ?_⟩
        rw [e33, k1] at hq
        have e := hq.1
        subst e
        refine mt_unJ hq.2.1 ok oo on ?_
        intro h7 l1 l2
        have e := me_nil l2
        subst e
        unfold yu yv
        rw [if_neg c1, if_pos c2, if_pos c5]
        exact ⟨rfl, l1, hq.2.2.1, hq.2.2.2.1, by have := hq.2.2.2.2; omega⟩
    · intro b b2 c1 c3 c4
      rw [e122] at c1
      obtain ⟨⟨v0, v1⟩, n2⟩ := hv (Or.inl c1)
      refine ⟨by omega, fun h2 r1 r2 => ?_⟩
      have e := me_nil r2
      subst e
      rw [ev, lg_i32 v0 v1]
      have on : mi_in (mx_b h 162 (mi_f h 14033).toNat).toInt := ⟨by unfold yv at v0 v1; omega, by unfold yv at v0 v1; omega⟩
      refine mt_unD r1 ok oo on ?_
      intro h3 s1 s2
      have e := me_nil s2
      subst e
      refine ⟨_, me_comeso (d := d + 5) s1 hm ⟨by decide, by decide⟩ (by omega) (by omega), fun w h4 hw hq => ?_⟩
      obtain ⟨⟨z, rfl⟩, q1, q2, q3⟩ := hq
      have e29 : mi_f h4 14029 = mi_f h 14029 := (me_f (c := 14029) q2 s1 rfl rfl).trans f29
      have R4 : oR h4 (some o) := oR_fr hR q2 s1 rfl
      have e36 : mi_f h4 14036 = mi_f h 14036 := (me_f (c := 14036) q2 s1 rfl rfl).trans f36
      have e28 : mi_f h4 14028 = 2 := (me_f (c := 14028) q2 s1 rfl rfl).trans hm
      refine mt_unE q1 ok oo on (hw _ rfl) ?_ (by intros; exfalso; omega)
      intro b3 b4 c5
      refine ⟨by omega, fun h5 t1 t2 t3 a5 a6 a7 t4 => ?_⟩
      unfold yu
      rw [if_pos c1]
      have := yQ_fr R4 (by omega) t1 t4 q1 rfl
      exact ⟨this.1, this.2.1, this.2.2.1, this.2.2.2.1, by have := this.2.2.2.2; omega⟩
  refine mt_unA hS0 ok oo ?_ ?_
  · intro c h1 g1 g2
    exact go24 h1 g1 (g2.wide (fun c hc => by cases hc))
  · intro b b2 c
    have := hp (by omega)
    exact ⟨by omega, fun h1 g1 g2 a8 g3 => go24 h1 g1 g3⟩
end PRO
