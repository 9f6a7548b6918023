/-! the class's growing walk: what lies in its rows beside the pure one; draw, enter, leave, how often, which -/
def gq_T (h : sm_H) (T : List (Int × Int × Int)) : Prop := mi_f h 13056 = (T.length : Int) ∧ ∀ k : Nat, k < T.length → ∃ l q, T[k]? = some (mi_a h 103 k + 10 * q, mi_a h 104 k, l) ∧ 0 ≤ mi_a h 103 k ∧ mi_a h 103 k < 10
def gq_R (h : sm_H) (s : gm_S) : Prop := gq_T h (gm_T s) ∧ mx_l h 13702 = gm_X s ∧ mi_f h 13703 = gm_F s ∧ gm_len s ≤ 100 ∧ -(gm_len s) ≤ gm_F s ∧ gm_F s ≤ 20
def gq_W : List (Nat × Nat) := [(13056, 13057), (13184, 13185), (13312, 13313), (13440, 13441), (13699, 13704)]
def gq_w (wr : List (Nat × Nat)) : Bool := ab_in wr 13056 || ab_in wr 13184 || ab_in wr 13312
section CW0
variable {h h' : sm_H} {s : gm_S} {d : Nat} {wr : List (Nat × Nat)}
theorem gq_T_fr {T : List (Int × Int × Int)} (hT : gq_T h T) (hF : ab_Fr wr h h') (hS : ab_Sh sx_sk h) (w1 : gq_w wr = false) : gq_T h' T := by
  unfold gq_w at w1
  simp only [Bool.or_eq_false_iff] at w1
  have e1 : mi_f h' 13056 = mi_f h 13056 := me_f (c := 13056) hF hS rfl w1.1.1
  have e2 : ∀ i, mi_a h' 103 i = mi_a h 103 i := fun i => me_a (k := 103) hF hS rfl w1.1.2
  have e3 : ∀ i, mi_a h' 104 i = mi_a h 104 i := fun i => me_a (k := 104) hF hS rfl w1.2
  unfold gq_T at hT ⊢
  simp only [e1, e2, e3]
  exact hT
theorem gq_R_fr (hR : gq_R h s) (hF : ab_Fr wr h h') (hS : ab_Sh sx_sk h) (w1 : gq_w wr = false) (w2 : ab_in wr 13702 = false) (w3 : ab_in wr 13703 = false) : gq_R h' s := by
  obtain ⟨r1, r2, r3, r4⟩ := hR
  exact ⟨gq_T_fr r1 hF hS w1, (me_l (c := 13702) hF hS rfl w2).trans r2, (me_f (c := 13703) hF hS rfl w3).trans r3, r4⟩
/-- only what is counted of a state matters, but for its nodes -/
theorem gq_R_D {t : gm_S} (hR : gq_R h s) (e1 : gm_T t = gm_T s) (e2 : gm_X t = gm_X s) (e3 : gm_F t = gm_F s) : gq_R h t := by
  unfold gq_R gm_len at hR ⊢
  rw [e1, e2, e3]
  exact hR
theorem me_gdraw {zn : Int} (hS : ab_Sh sx_sk h) (h0 : 0 < zn) (h1 : zn ≤ 2147483647) : me_E (d + 1) 123 0 [some (.inr (.inr 107)), some (.inl zn)] [] h (fun w h' => ab_Sh sx_sk h' ∧ ab_Fr [(13702, 13703)] h h' ∧ mx_l h' 13702 = gm_x (mx_l h 13702) ∧ w = some (.inl (gm_v (gm_x (mx_l h 13702)) zn))) := by
  have ok : mi_in zn := ⟨by omega, by omega⟩
  have ey : ((Int32.ofInt zn).toInt64).toInt = zn := by rw [Int32.toInt_toInt64, mi_ti ok]
  refine mt_kgdr hS ok ?_ ?_
  · intro c
    exfalso; omega
  · intro c
    refine ⟨fun e => ?_, fun h1 g1 g2 g3 => ⟨g1, g3, g2, rfl⟩⟩
    rw [e] at ey
    have : (0 : Int64).toInt = 0 := rfl
    omega
/-- a draw beside the pure one -/
theorem gq_R_x {y : Int64} (hR : gq_R h s) (hF : ab_Fr [(13702, 13703)] h h') (hS : ab_Sh sx_sk h) (e : mx_l h' 13702 = gm_x (mx_l h 13702)) (hy : gm_x (gm_X s) = y) : gq_R h' (y, gm_F s, gm_T s, gm_D s, gm_P s) := by
  obtain ⟨r1, r2, r3, r4⟩ := hR
  unfold gq_R gm_len at *
  rw [gm_T_mk, gm_X_mk, gm_F_mk]
  exact ⟨gq_T_fr r1 hF hS rfl, by rw [e, r2, hy], (me_f (c := 13703) hF hS rfl rfl).trans r3, r4⟩
theorem me_gdrawx {zn z : Int} {y : Int64} (hS : ab_Sh sx_sk h) (hR : gq_R h s) (h0 : 0 < zn) (h1 : zn ≤ 2147483647) (hy : gm_x (gm_X s) = y) (hz : gm_v y zn = z) : me_E (d + 1) 123 0 [some (.inr (.inr 107)), some (.inl zn)] [] h (fun w h' => ab_Sh sx_sk h' ∧ ab_Fr [(13702, 13703)] h h' ∧ gq_R h' (y, gm_F s, gm_T s, gm_D s, gm_P s) ∧ w = some (.inl z)) := by
  refine (me_gdraw hS h0 h1).imp (fun w h' hq => ?_)
  obtain ⟨q1, q2, q3, q4⟩ := hq
  refine ⟨q1, q2, gq_R_x hR q2 hS q3 hy, ?_⟩
  rw [q4, hR.2.1, hy, hz]
def gq_en : List (Nat × Nat) := [(13056, 13057), (13184, 13185), (13312, 13313), (13440, 13441), (13699, 13701)]
theorem me_genter {zk zv : Int} (hS : ab_Sh sx_sk h) (hk0 : 0 ≤ zk ∧ zk < 10) (ov : mi_in zv) (h0 : mi_f h 13699 = 0) (h1 : mi_f h 13700 = 0) (hR : gq_R h s) : me_E (d + 2) 116 0 [some (.inr (.inr 107)), some (.inl zk), some (.inl zv), none] [] h (fun w h' => ab_Sh sx_sk h' ∧ ab_Fr gq_en h h' ∧ ((gm_c zk zv s = none ∧ w = some (.inl (-1)) ∧ mi_f h' 13699 = 1 ∧ mi_f h' 13700 = 1) ∨ (∃ t, gm_c zk zv s = some t ∧ w = some (.inl (gm_len s)) ∧ mi_f h' 13699 = 0 ∧ mi_f h' 13700 = 0 ∧ gq_R h' t ∧ ∀ i, mi_a h' 105 i = if i = (gm_T s).length then 0 else mi_a h 105 i))) := by
  obtain ⟨⟨r1, r5⟩, r2, r3, r4, r6, r7⟩ := hR
  have rl : gm_len s = ((gm_T s).length : Int) := rfl
  have ok : mi_in zk := ⟨by omega, by omega⟩
  refine mt_kgen hS ok ov ?_ ?_ ?_ ?_ ?_
  · intro b c1 c2
    exfalso; omega
  · intro b c1 c2
    exfalso; omega
  · intro b c1 c2 c3
    refine ⟨⟨⟨by omega, by omega⟩, ⟨by omega, by omega⟩, by omega, by omega⟩, fun h1' g1 g2 g3 g4 g5 g6 => ?_⟩
    refine ⟨g1, g6.wide (fun c hc => ab_swr_ok (by decide) hc), Or.inr ⟨(gm_X s, gm_F s, gm_T s ++ [(zk + 10 * ((gm_T s).length : Int), zv, gm_D s)], gm_D s, gm_P s), ?_, ?_, (me_f (c := 13699) g6 hS rfl rfl).trans h0, (me_f (c := 13700) g6 hS rfl rfl).trans h1, ?_, ?_⟩⟩
    · unfold gm_c
      rw [if_neg (by omega)]
    · have e : mi_f h 13056 + 1 - 1 = gm_len s := by omega
      rw [e]
    · have el : (gm_T s ++ [(zk + 10 * ((gm_T s).length : Int), zv, gm_D s)]).length = (gm_T s).length + 1 := by rw [List.length_append]; rfl
      unfold gq_R gm_len
      rw [gm_T_mk, gm_X_mk, gm_F_mk]
      refine ⟨⟨by rw [el, g2, r1]; omega, fun k hk => ?_⟩, (me_l (c := 13702) g6 hS rfl rfl).trans r2, (me_f (c := 13703) g6 hS rfl rfl).trans r3, by rw [el]; omega, by rw [el]; omega, r7⟩
      rw [el] at hk
      rw [g3, g4]
      by_cases c : k = (gm_T s).length
      · refine ⟨gm_D s, ((gm_T s).length : Int), ?_⟩
        rw [if_pos (by omega), if_pos (by omega)]
        refine ⟨?_, hk0⟩
        rw [c, List.getElem?_append_right (Nat.le_refl _), Nat.sub_self]
        rfl
      · obtain ⟨l, q, hl⟩ := r5 k (by omega)
        refine ⟨l, q, ?_⟩
        rw [if_neg (by omega), if_neg (by omega), List.getElem?_append_left (by omega)]
        exact hl
    · intro i
      rw [g5]
      have e : Int.toNat (mi_f h 13056) = (gm_T s).length := by omega
      rw [e]
  · intro b c1 c2 c3
    exfalso; omega
  · intro b c1 h1' g1 g2 g3 g4
    refine ⟨g1, g4.wide (fun c hc => ab_swr_ok (by decide) hc), Or.inl ⟨?_, rfl, g2, g3⟩⟩
    unfold gm_c
    rw [if_pos (by omega)]
/-- a node is left: its size is written, no more -/
theorem me_gleave {zk : Int} (hS : ab_Sh sx_sk h) (ok : mi_in zk) : me_E (d + 2) 147 0 [some (.inr (.inr 107)), some (.inl zk)] [] h (fun w h' => w = none ∧ ab_Sh sx_sk h' ∧ ab_Fr [(13440, 13441)] h h') := by
  have k := me_abs (M := (2, 0, sb_147)) (as := [.inr (.inr 107), .inl zk]) xo_467 rfl hS ⟨rfl, me_nv1 ok ok.1 ok.2, trivial⟩ (fun e he => by cases he) (by decide)
  refine (me_E.deep (d' := d + 2) k (by show 2 ≤ d + 2; omega)).imp (fun w h' hq => ⟨?_, hq.1, hq.2.1⟩)
  obtain ⟨-, -, p, -, hp, -⟩ := hq
  unfold mi_res at hp
  rw [if_pos rfl] at hp
  exact hp
theorem me_gleavex {n : Nat} (hS : ab_Sh sx_sk h) (hn : n < 100) (hc0 : 0 ≤ mi_f h 13056) (hc : mi_f h 13056 ≤ 100) : me_E (d + 2) 147 0 [some (.inr (.inr 107)), some (.inl (n : Int))] [] h (fun w h' => w = none ∧ ab_Sh sx_sk h' ∧ ab_Fr [(13440, 13441)] h h' ∧ ∀ i, mi_a h' 105 i = if i = n then mi_f h 13056 - 1 - n else mi_a h 105 i) := by
  refine mt_kgle hS ⟨by omega, by omega⟩ (by intros; exfalso; omega) (by intros; exfalso; omega) ?_
  intro b c1 c2
  refine ⟨⟨⟨by omega, by omega⟩, ⟨by omega, by omega⟩, by omega, by omega⟩, fun h1 g1 g2 g3 => ⟨rfl, g1, g3, ?_⟩⟩
  rw [Int.toNat_natCast] at g2
  exact g2
theorem me_gpairEnds {za zb : Int} (hS : ab_Sh sx_sk h) (oa : mi_in za) (ob : mi_in zb) : me_E (d + 4) 152 0 [some (.inr (.inr 107)), some (.inl za), some (.inl zb)] [] h (fun w h' => w = none ∧ ab_Sh sx_sk h' ∧ ab_Fr [(13184, 13185), (13312, 13313), (13440, 13441)] h h') := by
  have k := me_abs (M := (3, 0, sb_152)) (as := [.inr (.inr 107), .inl za, .inl zb]) xo_476 rfl hS ⟨rfl, me_nv1 oa oa.1 oa.2, me_nv1 ob ob.1 ob.2, trivial⟩ (fun e he => by cases he) (by decide)
  refine (me_E.deep (d' := d + 4) k (by show 4 ≤ d + 4; omega)).imp (fun w h' hq => ⟨?_, hq.1, hq.2.1⟩)
  obtain ⟨-, -, p, -, hp, -⟩ := hq
  unfold mi_res at hp
  rw [if_pos rfl] at hp
  exact hp
/-- how often a part comes -/
theorem me_gtimes {zr zn : Int} (hS : ab_Sh sx_sk h) (hR : gq_R h s) (hz : (zr = 5 ∧ zn = 3) ∨ (zr = 6 ∧ zn = 2)) : me_E (d + 2) 142 0 [some (.inr (.inr 107)), some (.inl zr)] [] h (fun w h' => ab_Sh sx_sk h' ∧ ab_Fr [(13702, 13703)] h h' ∧ gq_R h' (gm_y s) ∧ w = some (.inl (gm_n zn s))) := by
  have ok : mi_in zr := ⟨by omega, by omega⟩
  have e03 : mi_f h 13703 = gm_F s := hR.2.2.1
  obtain ⟨y, hy⟩ : ∃ y, gm_x (gm_X s) = y := ⟨_, rfl⟩
  have go : ∀ zn z : Int, 0 < zn → zn ≤ 3 → ¬ gm_F s < 0 → gm_v y zn = z → ∀ h1, ab_Fr [] h h1 → ∃ Q1, me_E (d + 1) 123 0 [some (.inr (.inr 107)), some (.inl zn)] [] h1 Q1 ∧ ∀ w h2, (∀ x, w = some x → mi_ok x) → Q1 w h2 → me_E (d + 2) 142 25 [some (.inr (.inr 107)), some (.inl zr)] (mi_back w []) h2 (fun w h' => ab_Sh sx_sk h' ∧ ab_Fr [(13702, 13703)] h h' ∧ gq_R h' (gm_y s) ∧ w = some (.inl (gm_n zn s))) := by
    intro zn z n0 n1 nf hz h1 g2
    have e3 := me_nil g2
    subst e3
    refine ⟨_, me_gdrawx hS hR n0 (by omega) hy hz, ?_⟩
    intro w h2 hw hq
    obtain ⟨q1, q2, q3, rfl⟩ := hq
    refine mt_kgtb q1 ok (hw _ rfl) ?_
    intro h3 g3 g4
    have e4 := me_nil g4
    subst e4
    rw [gm_y_1 nf hy, gm_n_1 nf hy hz]
    exact ⟨q1, q2, q3, rfl⟩
  refine mt_kgta hS ok ?_ ?_ ?_
  · intro b c1 c2 h1 g1 g2
    have e : zn = 2 := by omega
    rw [e]
    exact go 2 _ (by decide) (by decide) (by omega) rfl h1 g2
  · intro b c1 c2 h1 g1 g2
    have e : zn = 3 := by omega
    rw [e]
    exact go 3 _ (by decide) (by decide) (by omega) rfl h1 g2
  · intro b c1 h1 g1 g2
    have e3 := me_nil g2
    subst e3
    have nf : gm_F s < 0 := by omega
    rw [gm_y_0 nf, gm_n_0 nf]
    exact ⟨g1, ab_Fr.refl, hR, rfl⟩
end CW0
/-- a form of the class's rows beside the reference's -/
def cg_F (f : Int → Int) (it : Int → Prop) (g : wk_g) (h : sm_H) (F : Int) : Prop := (0 ≤ f F ∧ f F < 70) ∧ mi_a h 63 (f F).toNat = g 129 F.toNat ∧ mi_a h 64 (f F).toNat = g 130 F.toNat ∧ g 130 F.toNat ≤ 6 ∧ ∀ j : Nat, (j : Int) < g 130 F.toNat → (0 ≤ wk_alt g j (g 129 F.toNat) ∧ wk_alt g j (g 129 F.toNat) < 66) ∧ mi_a h 65 (wk_alt g j (g 129 F.toNat)).toNat = g 126 (wk_alt g j (g 129 F.toNat)).toNat ∧ mi_a h 66 (wk_alt g j (g 129 F.toNat)).toNat = g 128 (wk_alt g j (g 129 F.toNat)).toNat ∧ mi_a h 87 (wk_alt g j (g 129 F.toNat)).toNat = g 143 (wk_alt g j (g 129 F.toNat)).toNat ∧ g 143 (wk_alt g j (g 129 F.toNat)).toNat ≤ 1000 ∧ (-1 ≤ g 126 (wk_alt g j (g 129 F.toNat)).toNat ∧ (0 ≤ g 126 (wk_alt g j (g 129 F.toNat)).toNat → it (g 126 (wk_alt g j (g 129 F.toNat)).toNat)))
/-- .. a unit -/
def cg_U (f : Int → Int) (it : Int → Prop) (g : wk_g) (h : sm_H) (u : Int) : Prop := mi_a h 68 u.toNat = g 119 u.toNat ∧ (g 119 u.toNat = 9 → mi_a h 69 u.toNat = g 115 (g 120 u.toNat).toNat ∧ f (wk_rf g u) = g 115 (g 120 u.toNat).toNat) ∧ (g 119 u.toNat = 10 → mi_a h 69 u.toNat = f (g 120 u.toNat)) ∧ (mi_a h 72 u.toNat = if g 122 u.toNat = 0 then 0 else g 122 u.toNat + 4) ∧ (0 ≤ g 122 u.toNat ∧ g 122 u.toNat ≤ 2) ∧ (it u → (mi_a h 74 u.toNat = 1 ↔ 0 ≤ g 124 u.toNat) ∧ -1 ≤ g 125 u.toNat ∧ (0 ≤ g 125 u.toNat → it (g 125 u.toNat)) ∧ (0 ≤ g 124 u.toNat → mi_a h 71 u.toNat = g 124 u.toNat ∧ mi_a h 71 (g 124 u.toNat).toNat = g 125 u.toNat) ∧ (¬ 0 ≤ g 124 u.toNat → mi_a h 71 u.toNat = g 125 u.toNat))
/-- the rows as a whole -/
def cg_G (f : Int → Int) (it : Int → Prop) (g : wk_g) (Y : wk_Y) (kw : Int → Bool) (h : sm_H) : Prop := wk_L g Y ∧ (∀ F, 0 ≤ F → F < wk_f Y → cg_F f it g h F) ∧ (∀ u, 0 ≤ u → u < wk_u Y → cg_U f it g h u) ∧ mi_f h 7698 ≤ 20 ∧ (∀ c : Int, 0 < c → c < 1073741824 → ((∃ l : Nat, (l : Int) < mi_f h 7698 ∧ mi_a h 75 l = c) ↔ kw c = true)) ∧ ∀ c : Int, kw c = true → c < 33554432
def cg_w (wr : List (Nat × Nat)) : Bool := [63, 64, 65, 66, 68, 69, 71, 72, 74, 75, 87].all (fun k => !ab_in wr (k * 128)) && !ab_in wr 7698
theorem cg_G_fr {f : Int → Int} {it : Int → Prop} {g : wk_g} {Y : wk_Y} {kw : Int → Bool} {h h' : sm_H} {wr : List (Nat × Nat)} (hG : cg_G f it g Y kw h) (hF : ab_Fr wr h h') (hS : ab_Sh sx_sk h) (hw : cg_w wr = true) : cg_G f it g Y kw h' := by
  unfold cg_w at hw
  simp only [Bool.and_eq_true] at hw
  have a : ∀ k, k ∈ [63, 64, 65, 66, 68, 69, 71, 72, 74, 75, 87] → ∀ i, mi_a h' k i = mi_a h k i := fun k hk i => by
    have h1 := List.all_eq_true.mp hw.1 k hk
    have h2 : [63, 64, 65, 66, 68, 69, 71, 72, 74, 75, 87].all (fun k => (mx_isA sx_sk k || mx_isB sx_sk k)) = true := by decide
    exact me_a hF hS (List.all_eq_true.mp h2 k hk) (by simpa using h1)
  have f98 : mi_f h' 7698 = mi_f h 7698 := me_f (c := 7698) hF hS rfl (by simpa using hw.2)
  have a63 := a 63 (by decide)
  have a64 := a 64 (by decide)
  have a65 := a 65 (by decide)
  have a66 := a 66 (by decide)
  have a68 := a 68 (by decide)
  have a69 := a 69 (by decide)
  have a71 := a 71 (by decide)
  have a72 := a 72 (by decide)
  have a74 := a 74 (by decide)
  have a75 := a 75 (by decide)
  have a87 := a 87 (by decide)
  unfold cg_G cg_F cg_U at hG ⊢
  simp only [a63, a64, a65, a66, a68, a69, a71, a72, a74, a75, a87, f98]
  exact hG
section CW1
variable {h : sm_H} {s : gm_S} {d : Nat} {f : Int → Int} {it : Int → Prop} {g : wk_g} {F : Int}
theorem cl22 (hS : ab_Sh sx_sk h) (hF : cg_F f it g h F) (hn : wk_alt g (g 130 F.toNat).toNat (g 129 F.toNat) < 0) : ∀ (N j : Nat) (zw zl zb zh : Int), g 130 F.toNat - j = N → zw = zb → mi_in zw → zl = min zh 1000 → mi_in zl → (zh ≤ 1000 ∨ (zh = 1001 ∧ j = 0 ∧ zb = 0)) → mi_in (wk_alt g j (g 129 F.toNat)) → me_E (d + 1) 122 22 [some (.inr (.inr 107)), some (.inl (f F)), some (.inl zw), some (.inl zl), some (.inl (wk_alt g j (g 129 F.toNat))), some (.inl (j : Int))] [] h (fun w h' => h' = h ∧ w = some (.inl (gm_lo g N (wk_alt g j (g 129 F.toNat)) (j : Int) zb zh))) := by
  obtain ⟨⟨f0, f1⟩, f2, f3, f4, f5⟩ := hF
  have of : mi_in (f F) := ⟨by omega, by omega⟩
  intro N
  induction N with
  | zero =>
    intro j zw zl zb zh h1 ew ow el l0 hh oa
    have oj : mi_in (j : Int) := ⟨by omega, by omega⟩
    have ol := l0
    refine mt_kglB hS of ow ol oa oj (by intros; exfalso; omega) (by intros; exfalso; omega) (by intros; exfalso; omega) (by intros; exfalso; omega) (by intros; exfalso; omega) (by intros; exfalso; omega) ?_ ?_ ?_
    · intro c1 c2 c3
      refine ⟨⟨c1, c2⟩, fun h1 g1 g2 => ?_⟩
      have e3 := me_nil g2
      subst e3
      refine mt_kglF g1 of ow ol oa oj (fun h2 r1 r2 => ⟨me_nil r2, ?_⟩)
      rw [gm_lo_0, ew]
    · intro c1 c2 c3 c4
      rw [f3] at c3
      exfalso; omega
    · intro c1 c2 c3 c4
      rw [f3] at c3
      exfalso; omega
  | succ N ih =>
    intro j zw zl zb zh h1 ew ow el l0 hh oa
    have oj : mi_in (j : Int) := ⟨by omega, by omega⟩
    have ol := l0
    obtain ⟨⟨p1, p2⟩, p3, p4, p5, p6, p7⟩ := f5 j (by omega)
    have es := wk_alt_succ g j (g 129 F.toNat)
    have oa2 : mi_in (wk_alt g (j + 1) (g 129 F.toNat)) := by
      rw [es, ← p4]
      exact mi_inT _
    generalize ha : wk_alt g j (g 129 F.toNat) = a at p1 p2 p3 p4 p5 p6 p7 es oa ⊢
    have b87 : mi_in (mi_a h 87 a.toNat) := mi_inT _
    have o87 : -2147483648 ≤ mi_a h 87 a.toNat := b87.1
    rw [gm_lo_s]
    refine mt_kglB hS of ow ol oa oj (by intros; exfalso; omega) (by intros; exfalso; omega) (by intros; exfalso; omega) (by intros; exfalso; omega) (by intros; exfalso; omega) (by intros; exfalso; omega) ?_ ?_ ?_
    · intro c1 c2 c3
      rw [f3] at c3
      exfalso; omega
    · intro c1 c2 c3 c4
      exfalso; omega
    · intro c1 c2 c3 c4
      refine ⟨⟨c1, c2⟩, fun h1 g1 g2 => ?_⟩
      have e3 := me_nil g2
      subst e3
      refine mt_kglC hS of ow ol oa oj (by intros; exfalso; omega) (by intros; exfalso; omega) (by intros; exfalso; omega) (by intros; exfalso; omega) ?_ ?_
      · intro d1 d2 d3
        rw [p5] at d3
        refine ⟨⟨d1, d2⟩, fun h2 g3 g4 => ?_⟩
        have e4 := me_nil g4
        subst e4
        refine mt_kglE hS of ow ol oa oj (by intros; exfalso; omega) (by intros; exfalso; omega) ?_
        intro _ _
        refine ⟨⟨⟨d1, d2⟩, by omega, by omega⟩, fun h3 g5 g6 => ?_⟩
        have e5 := me_nil g6
        subst e5
        rw [p4, ← es]
        by_cases cc : g 143 a.toNat < zh
        · rw [if_pos cc, if_pos cc]
          exact ih (j + 1) zw zl (j : Int) (g 143 a.toNat) (by omega) (by omega) ow (by omega) l0 (by omega) oa2
        · rw [if_neg cc, if_neg cc]
          exact ih (j + 1) zw zl zb zh (by omega) ew ow el l0 (by omega) oa2
      · intro d1 d2 d3
        rw [p5] at d3
        refine ⟨⟨d1, d2⟩, fun h2 g3 g4 => ?_⟩
        have e4 := me_nil g4
        subst e4
        refine mt_kglD hS of ow ol oa oj (by intros; exfalso; omega) (by intros; exfalso; omega) ?_
        intro _ _
        refine ⟨⟨d1, d2⟩, fun h3 g5 g6 => ?_⟩
        have e5 := me_nil g6
        subst e5
        refine mt_kglE hS of oj b87 oa oj (by intros; exfalso; omega) (by intros; exfalso; omega) ?_
        intro _ _
        refine ⟨⟨⟨d1, d2⟩, by omega, by omega⟩, fun h4 g7 g8 => ?_⟩
        have e6 := me_nil g8
        subst e6
        rw [p4, p5, ← es, if_pos (by omega), if_pos (by omega)]
        exact ih (j + 1) (j : Int) (g 143 a.toNat) (j : Int) (g 143 a.toNat) (by omega) rfl oj (by omega) (by rw [← p5]; exact mi_inT _) (Or.inl p6) oa2
theorem me_glowest (hS : ab_Sh sx_sk h) (hF : cg_F f it g h F) (h1 : 1 ≤ g 130 F.toNat) (hn : wk_alt g (g 130 F.toNat).toNat (g 129 F.toNat) < 0) : me_E (d + 1) 122 0 [some (.inr (.inr 107)), some (.inl (f F)), none, none, none, none] [] h (fun w h' => h' = h ∧ w = some (.inl (gm_lo g (g 130 F.toNat).toNat (g 129 F.toNat) 0 0 1001))) := by
  obtain ⟨⟨f0, f1⟩, f2, f3, f4, f5⟩ := id hF
  have of : mi_in (f F) := ⟨by omega, by omega⟩
  refine mt_kglA hS of (by intros; exfalso; omega) (by intros; exfalso; omega) ?_
  intro c1 c2
  refine ⟨⟨by omega, by omega⟩, fun h1' g1 g2 => ?_⟩
  have e3 := me_nil g2
  subst e3
  rw [f2]
  have o9 : mi_in (wk_alt g 0 (g 129 F.toNat)) := by
    show mi_in (g 129 F.toNat)
    rw [← f2]
    exact mi_inT _
  exact cl22 hS hF hn (g 130 F.toNat).toNat 0 0 1000 0 1001 (by omega) rfl ⟨by decide, by decide⟩ (by omega) ⟨by decide, by decide⟩ (Or.inr ⟨rfl, rfl, rfl⟩) o9
/-- which alternative comes -/
theorem me_gchosen (hS : ab_Sh sx_sk h) (hR : gq_R h s) (hF : cg_F f it g h F) (h1 : 1 ≤ g 130 F.toNat) (hn : wk_alt g (g 130 F.toNat).toNat (g 129 F.toNat) < 0) : me_E (d + 2) 121 0 [some (.inr (.inr 107)), some (.inl (f F))] [] h (fun w h' => ab_Sh sx_sk h' ∧ ab_Fr [(13702, 13703)] h h' ∧ gq_R h' (gm_y s) ∧ w = some (.inl (gm_w g F s))) := by
  obtain ⟨⟨f0, f1⟩, f2, f3, f4, f5⟩ := id hF
  have of : mi_in (f F) := ⟨by omega, by omega⟩
  have e03 : mi_f h 13703 = gm_F s := hR.2.2.1
  obtain ⟨y, hy⟩ : ∃ y, gm_x (gm_X s) = y := ⟨_, rfl⟩
  refine mt_kgca hS of (by intros; exfalso; omega) (by intros; exfalso; omega) ?_ ?_
  · intro b c1 c2 c3
    have nf : ¬ gm_F s < 0 := by omega
    obtain ⟨z, hz⟩ : ∃ z, gm_v y (g 130 F.toNat) = z := ⟨_, rfl⟩
    refine ⟨⟨by omega, by omega⟩, fun h1' g1 g2 => ?_⟩
    have e3 := me_nil g2
    subst e3
    rw [f3]
    refine ⟨_, me_gdrawx (d := d) hS hR (by omega) (by omega) hy hz, ?_⟩
    intro w h2 hw hq
    obtain ⟨q1, q2, q3, rfl⟩ := hq
    refine mt_kgcc q1 of (hw _ rfl) ?_
    intro h3 g3 g4
    have e4 := me_nil g4
    subst e4
    rw [gm_y_1 nf hy, gm_w_1 nf hy hz]
    exact ⟨q1, q2, q3, rfl⟩
  · intro b c1 h1' g1 g2
    have e3 := me_nil g2
    subst e3
    have nf : gm_F s < 0 := by omega
    refine ⟨_, me_glowest (d := d) hS hF h1 hn, ?_⟩
    intro w h2 hw hq
    obtain ⟨rfl, q4⟩ := hq
    subst q4
    rw [gm_y_0 nf, gm_w_0 nf]
    generalize gm_lo g (g 130 F.toNat).toNat (g 129 F.toNat) 0 0 1001 = z at hw ⊢
    refine mt_kgcb hS of (hw _ rfl) ?_
    intro h3 g3 g4
    have e4 := me_nil g4
    subst e4
    exact ⟨g3, ab_Fr.refl, hR, rfl⟩
theorem ga12 (hS : ab_Sh sx_sk h) (hF : cg_F f it g h F) {zw : Int} (w0 : 0 ≤ zw) (w1 : zw < g 130 F.toNat) : ∀ (N j : Nat), zw - j = N → mi_in (wk_alt g j (g 129 F.toNat)) → me_E (d + 1) 127 12 [some (.inr (.inr 60)), some (.inl (f F)), some (.inl zw), some (.inl (wk_alt g j (g 129 F.toNat))), some (.inl (j : Int))] [] h (fun w h' => h' = h ∧ w = some (.inl (wk_alt g zw.toNat (g 129 F.toNat)))) := by
  obtain ⟨⟨f0, f1⟩, f2, f3, f4, f5⟩ := hF
  have of : mi_in (f F) := ⟨by omega, by omega⟩
  have ow : mi_in zw := ⟨by omega, by omega⟩
  intro N
  induction N with
  | zero =>
    intro j h1 oa
    have oj : mi_in (j : Int) := ⟨by omega, by omega⟩
    refine mt_kgaB hS of ow oa oj ?_ (by intros; exfalso; omega) (by intros; exfalso; omega) (by intros; exfalso; omega) (by intros; exfalso; omega)
    intro c1 h1' g1 g2
    have e : zw.toNat = j := by omega
    exact ⟨me_nil g2, by rw [e]⟩
  | succ N ih =>
    intro j h1 oa
    have oj : mi_in (j : Int) := ⟨by omega, by omega⟩
    obtain ⟨⟨p1, p2⟩, p3, p4, -⟩ := f5 j (by omega)
    have es := wk_alt_succ g j (g 129 F.toNat)
    have oa2 : mi_in (wk_alt g (j + 1) (g 129 F.toNat)) := by
      rw [es, ← p4]
      exact mi_inT _
    have key := ih (j + 1) (by omega) oa2
    rw [es] at key
    generalize wk_alt g j (g 129 F.toNat) = a at p1 p2 p4 oa key ⊢
    refine mt_kgaB hS of ow oa oj (by intros; exfalso; omega) (by intros; exfalso; omega) (by intros; exfalso; omega) (by intros; exfalso; omega) ?_
    intro c1 c2 c3 c4
    refine ⟨⟨⟨by omega, by omega⟩, by omega, by omega⟩, fun h1' g1 g2 => ?_⟩
    have e3 := me_nil g2
    subst e3
    rw [p4]
    exact key
theorem me_galt (hS : ab_Sh sx_sk h) (hF : cg_F f it g h F) {zw : Int} (w0 : 0 ≤ zw) (w1 : zw < g 130 F.toNat) : me_E (d + 1) 127 0 [some (.inr (.inr 60)), some (.inl (f F)), some (.inl zw), none, none] [] h (fun w h' => h' = h ∧ w = some (.inl (wk_alt g zw.toNat (g 129 F.toNat)))) := by
  obtain ⟨⟨f0, f1⟩, f2, f3, f4, f5⟩ := id hF
  have of : mi_in (f F) := ⟨by omega, by omega⟩
  have ow : mi_in zw := ⟨by omega, by omega⟩
  refine mt_kgaA hS of ow (by intros; exfalso; omega) (by intros; exfalso; omega) ?_
  intro c1 c2
  refine ⟨⟨by omega, by omega⟩, fun h1' g1 g2 => ?_⟩
  have e3 := me_nil g2
  subst e3
  rw [f2]
  have o9 : mi_in (wk_alt g 0 (g 129 F.toNat)) := by
    show mi_in (g 129 F.toNat)
    rw [← f2]
    exact mi_inT _
  exact ga12 hS hF w0 w1 zw.toNat 0 (by omega) o9
end CW1
