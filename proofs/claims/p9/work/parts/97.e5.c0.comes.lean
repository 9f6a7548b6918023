/-! the growing walk of the reference, exactly: what lies in its arrays beside the pure one; draw, comes -/
theorem gm_vbt : gm_vb := by
  intro x n h0 h1
  have ok : mi_in n := ⟨by omega, by omega⟩
  have ey : ((Int32.ofInt n).toInt64).toInt = n := by rw [Int32.toInt_toInt64, mi_ti ok]
  obtain ⟨x0, x1⟩ := dr_x x
  unfold gm_v
  rw [dr_mod x0 x1 (by rw [ey]; exact h0), ey]
  exact ⟨Int.emod_nonneg _ (by omega), Int.emod_lt_of_pos _ h0⟩
/-- the nodes: what is the k-th one, through the order -/
def gx_T (h : sm_H) (T : List (Int × Int × Int)) : Prop := mi_f h 14016 = (T.length : Int) ∧ (∀ k : Nat, k < T.length → 0 ≤ mi_a h 160 k ∧ mi_a h 160 k < (T.length : Int) ∧ T[k]? = some (mi_a h 158 (mi_a h 160 k).toNat + 10 * mi_a h 160 k, (mx_b h 163 (mi_a h 160 k).toNat).toInt, mi_a h 159 (mi_a h 160 k).toNat) ∧ 0 ≤ mi_a h 158 (mi_a h 160 k).toNat ∧ mi_a h 158 (mi_a h 160 k).toNat < 10) ∧ ∀ k j : Nat, k < T.length → j < T.length → mi_a h 160 k = mi_a h 160 j → k = j
def gx_P (h : sm_H) : List (Nat × Nat) → Prop
  | [] => True
  | p :: q => mi_a h 168 q.length = (p.1 : Int) ∧ (p.2 = 0 ∨ mi_a h 169 q.length = (p.2 : Int)) ∧ gx_P h q
def gx_R (h : sm_H) (s : gm_S) : Prop := gx_T h (gm_T s) ∧ mx_l h 14047 = gm_X s ∧ mi_f h 14035 = gm_F s ∧ mi_f h 14031 = gm_D s ∧ mi_f h 14030 = ((gm_P s).length : Int) ∧ gx_P h (gm_P s)
section GX1
variable {h h' : sm_H} {s : gm_S} {d : Nat} {wr : List (Nat × Nat)}
theorem gx_T_fr {T : List (Int × Int × Int)} (hT : gx_T h T) (hF : ab_Fr wr h h') (hS : ab_Sh sx_sk h) (hw : (ab_in wr 14016 || ab_in wr 20224 || ab_in wr 20352 || ab_in wr 20480 || ab_in wr 20864) = false) : gx_T h' T := by
  simp only [Bool.or_eq_false_iff] at hw
  obtain ⟨⟨⟨⟨w1, w2⟩, w3⟩, w4⟩, w5⟩ := hw
  have e1 : mi_f h' 14016 = mi_f h 14016 := me_f (c := 14016) hF hS rfl w1
  have e2 : ∀ i, mi_a h' 158 i = mi_a h 158 i := fun i => me_a (k := 158) hF hS rfl w2
  have e3 : ∀ i, mi_a h' 159 i = mi_a h 159 i := fun i => me_a (k := 159) hF hS rfl w3
  have e4 : ∀ i, mi_a h' 160 i = mi_a h 160 i := fun i => me_a (k := 160) hF hS rfl w4
  have e5 : ∀ i, mx_b h' 163 i = mx_b h 163 i := fun i => me_b (k := 163) hF hS rfl w5
  unfold gx_T at hT ⊢
  simp only [e1, e2, e3, e4, e5]
  exact hT
theorem gx_P_fr (hF : ab_Fr wr h h') (hS : ab_Sh sx_sk h) (hw : (ab_in wr 21504 || ab_in wr 21632) = false) : ∀ q : List (Nat × Nat), gx_P h q → gx_P h' q := by
  simp only [Bool.or_eq_false_iff] at hw
  intro q
  induction q with
  | nil => intro _; trivial
  | cons p q ih =>
    intro hq
    obtain ⟨a, b, c⟩ := hq
    exact ⟨(me_a (k := 168) hF hS rfl hw.1).trans a, b.imp_right (fun b => (me_a (k := 169) hF hS rfl hw.2).trans b), ih c⟩
theorem me_drawx {zn : Int} (hS : ab_Sh sx_sk h) (h0 : 0 < zn) (h1 : zn ≤ 2147483647) : me_E d 211 0 [some (.inr (.inr 109)), some (.inl zn)] [] h (fun w h' => ab_Sh sx_sk h' ∧ ab_Fr [(14047, 14048)] h h' ∧ mx_l h' 14047 = gm_x (mx_l h 14047) ∧ w = some (.inl (gm_v (gm_x (mx_l h 14047)) zn))) := by
  have ok : mi_in zn := ⟨by omega, by omega⟩
  have ey : ((Int32.ofInt zn).toInt64).toInt = zn := by rw [Int32.toInt_toInt64, mi_ti ok]
  refine mt_draw hS ok ⟨fun e => ?_, fun h1 g1 g2 g3 => ⟨g1, g3, g2, rfl⟩⟩
  rw [e] at ey
  have : (0 : Int64).toInt = 0 := rfl
  omega
/-- a node comes, or the limit is passed -/
theorem gx_T_c {T : List (Int × Int × Int)} (hT : gx_T h T) {zk : Int} {zv : Int64} (hk0 : 0 ≤ zk ∧ zk < 10) (g16 : mi_f h' 14016 = mi_f h 14016 + 1) (g158 : ∀ i, mi_a h' 158 i = if i = Int.toNat (mi_f h 14016) then zk else mi_a h 158 i) (g159 : ∀ i, mi_a h' 159 i = if i = Int.toNat (mi_f h 14016) then mi_f h 14031 else mi_a h 159 i) (g160 : ∀ i, mi_a h' 160 i = if i = Int.toNat (mi_f h 14016) then mi_f h 14016 else mi_a h 160 i) (g163 : ∀ i, mx_b h' 163 i = if i = Int.toNat (mi_f h 14016) then zv else mx_b h 163 i) : gx_T h' (T ++ [(zk + 10 * (T.length : Int), zv.toInt, mi_f h 14031)]) := by
  obtain ⟨t1, t2, t3⟩ := hT
  have el : (T ++ [(zk + 10 * (T.length : Int), zv.toInt, mi_f h 14031)]).length = T.length + 1 := by rw [List.length_append]; rfl
  have et : Int.toNat (mi_f h 14016) = T.length := by omega
  rw [et] at g158 g159 g160 g163
  refine ⟨by rw [el, g16, t1]; omega, fun k hk => ?_, fun k j hk hj e => ?_⟩
  · rw [el] at hk ⊢
    by_cases c : k = T.length
    · have o : mi_a h' 160 k = (T.length : Int) := by rw [g160, if_pos c, t1]
      have on : (mi_a h' 160 k).toNat = T.length := by omega
      rw [on, g158, g159, g163, if_pos rfl, if_pos rfl, if_pos rfl]
      refine ⟨by omega, by omega, ?_, hk0⟩
      rw [o, c, List.getElem?_append_right (Nat.le_refl _), Nat.sub_self]
      rfl
    · obtain ⟨a1, a2, a3⟩ := t2 k (by omega)
      have o : mi_a h' 160 k = mi_a h 160 k := by rw [g160, if_neg c]
      rw [o]
      have nn : (mi_a h 160 k).toNat ≠ T.length := by omega
      rw [g158, g159, g163, if_neg nn, if_neg nn, if_neg nn]
      refine ⟨a1, by omega, ?_, a3.2⟩
      rw [List.getElem?_append_left (by omega)]
      exact a3.1
  · rw [el] at hk hj
    rw [g160, g160] at e
    by_cases c : k = T.length
    · by_cases c2 : j = T.length
      · omega
      · rw [if_pos c, if_neg c2] at e
        have := t2 j (by omega)
        omega
    · by_cases c2 : j = T.length
      · rw [if_neg c, if_pos c2] at e
        have := t2 k (by omega)
        omega
      · rw [if_neg c, if_neg c2] at e
        exact t3 k j (by omega) (by omega) e
theorem me_comesx {zk : Int} {zv : Int64} (hS : ab_Sh sx_sk h) (hm : mi_f h 14028 = 1) (hk0 : 0 ≤ zk ∧ zk < 10) (hR : gx_R h s) : me_E d 208 0 [some (.inr (.inr 109)), some (.inl zk), some (.inr (.inl zv)), none] [] h (fun w h' => ab_Sh sx_sk h' ∧ ab_Fr [(14016, 14017), (14044, 14045), (20224, 20225), (20352, 20353), (20480, 20481), (20864, 20865)] h h' ∧ (∃ z, w = some (.inl z)) ∧ ((gm_c zk zv.toInt s = none ∧ mi_f h' 14044 = 1) ∨ (mi_f h' 14044 = 0 ∧ ∃ t, gm_c zk zv.toInt s = some t ∧ gx_R h' t))) := by
  obtain ⟨r1, r2, r3, r4, r5, r6⟩ := hR
  have rl := r1.1
  have ok : mi_in zk := ⟨by omega, by omega⟩
  refine mt_comes hS ok ?_ ?_ ?_
  · intro b1 b2 c1 c2
    refine ⟨⟨⟨by omega, by omega⟩, ⟨by omega, by omega⟩, ⟨by omega, by omega⟩, by omega, by omega⟩, fun h1 g1 g2 g3 g4 g5 g6 g7 g8 => ⟨g1, g8, ⟨_, rfl⟩, Or.inr ⟨g3, (gm_X s, gm_F s, gm_T s ++ [(zk + 10 * ((gm_T s).length : Int), zv.toInt, gm_D s)], gm_D s, gm_P s), ?_, ?_⟩⟩⟩
    · unfold gm_c
      rw [if_neg (by omega)]
    · have n := gx_T_c r1 hk0 g2 g4 g5 g6 g7
      rw [r4] at n
      unfold gx_R
      rw [gm_T_mk, gm_X_mk, gm_F_mk, gm_D_mk, gm_P_mk]
      exact ⟨n, (me_l (c := 14047) g8 hS rfl rfl).trans r2, (me_f (c := 14035) g8 hS rfl rfl).trans r3, (me_f (c := 14031) g8 hS rfl rfl).trans r4, (me_f (c := 14030) g8 hS rfl rfl).trans r5, gx_P_fr g8 hS rfl _ r6⟩
  · intro b1 b2 c1 c2 h1 g1 g2 g3
    refine ⟨g1, g3.wide (fun c hc => ab_swr_ok (by decide) hc), ⟨_, rfl⟩, Or.inl ⟨?_, g2⟩⟩
    unfold gm_c
    rw [if_pos (by omega)]
  · intro b1 b2 c1
    omega
end GX1
/-- how many are open: as many as are to be left -/
def gm_outs : List wk_E → Int
  | [] => 0
  | e :: r => (if e.1 = 2 then 1 else 0) + gm_outs r
theorem gm_outs_nn : ∀ r : List wk_E, 0 ≤ gm_outs r := by
  intro r
  induction r with
  | nil => exact Int.le_refl _
  | cons e r ih =>
    show 0 ≤ (if e.1 = 2 then 1 else 0) + gm_outs r
    split <;> omega
theorem gm_outs_a : ∀ (r q : List wk_E), gm_outs (r ++ q) = gm_outs r + gm_outs q := by
  intro r q
  induction r with
  | nil => show gm_outs q = 0 + _; omega
  | cons e r ih => show (if e.1 = 2 then 1 else 0) + gm_outs (r ++ q) = (if e.1 = 2 then 1 else 0) + gm_outs r + gm_outs q; omega
theorem gm_outs_it {g : wk_g} : ∀ (n : Nat) (u : Int), gm_outs (wk_it g n u) = 0 := by
  intro n
  induction n with
  | zero => intro u; rfl
  | succ n ih =>
    intro u
    unfold wk_it
    by_cases c : u < 0
    · rw [if_pos c]; rfl
    · rw [if_neg c]
      by_cases c2 : 0 ≤ g 124 u.toNat
      · rw [if_pos c2]
        show 0 + (0 + (0 + (0 + gm_outs (wk_it g n (g 125 u.toNat))))) = 0
        rw [ih]
        rfl
      · rw [if_neg c2]
        show 0 + gm_outs (wk_it g n (g 125 u.toNat)) = 0
        rw [ih]
        rfl
