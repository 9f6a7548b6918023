/-! what grow puts into nodes -/
/-- just n letters -/
def lgx : Nat → Int → Prop
  | 0, v => v = 0
  | n + 1, v => 1 ≤ v % 32 ∧ v % 32 ≤ 26 ∧ lgx n (v / 32)
theorem lgx_d : ∀ (n : Nat) (v : Int), lgx n v → lgd n v := by
  intro n
  induction n with
  | zero => intro v h; exact h
  | succ n ih => intro v h; exact Or.inr ⟨h.1, h.2.1, ih _ h.2.2⟩
theorem lgx_a {a : Int} (a0 : 1 ≤ a) (a1 : a ≤ 26) : ∀ (n : Nat) (v : Int), lgx n v → lgx (n + 1) (v + a * 32 ^ n) := by
  intro n
  induction n with
  | zero =>
    intro v h
    have h : v = 0 := h
    subst h
    have e : (0 : Int) + a * 32 ^ 0 = a := by rw [Int.pow_zero]; omega
    rw [e]
    exact ⟨by omega, by omega, show a / 32 = 0 by omega⟩
  | succ n ih =>
    intro v h
    obtain ⟨h1, h2, h3⟩ := h
    have e : v + a * 32 ^ (n + 1) = v + 32 * (a * 32 ^ n) := by rw [Int.pow_succ]; rw [← Int.mul_assoc]; omega
    have i := ih _ h3
    refine ⟨?_, ?_, ?_⟩
    · rw [e]; omega
    · rw [e]; omega
    · have e2 : (v + a * 32 ^ (n + 1)) / 32 = v / 32 + a * 32 ^ n := by rw [e]; omega
      rw [e2]
      exact i
theorem lgx_b : ∀ (n : Nat) (v : Int), 0 ≤ v → lgx (n + 1) v → 32 ^ n ≤ v := by
  intro n
  induction n with
  | zero => intro v v0 h; obtain ⟨h1, h2, h3⟩ := h; have h3 : v / 32 = 0 := h3; show (1 : Int) ≤ v; omega
  | succ n ih =>
    intro v v0 h
    obtain ⟨h1, h2, h3⟩ := h
    have := ih (v / 32) (by omega) h3
    rw [Int.pow_succ]
    omega
theorem gm_ls_x : ∀ (m k : Nat) (x : Int64) (v : Int), 0 ≤ v → lgx k v → lgx (k + m) (gm_ls m k x v).1 ∧ 0 ≤ (gm_ls m k x v).1 := by
  intro m
  induction m with
  | zero => intro k x v v0 h; exact ⟨h, v0⟩
  | succ m ih =>
    intro k x v v0 h
    have b := gm_vbt (gm_x x) 3 (by decide) (by decide)
    have p : (0 : Int) < 32 ^ k := Int.pow_pos (by decide)
    have q : 0 ≤ (1 + gm_v (gm_x x) 3) * 32 ^ k := Int.mul_nonneg (by omega) (by omega)
    have := ih (k + 1) (gm_x x) (v + (1 + gm_v (gm_x x) 3) * 32 ^ k) (by omega) (lgx_a (by omega) (by omega) k v h)
    rw [show k + (m + 1) = k + 1 + m from by omega]
    exact this
theorem gm_zs_x {kw : Int → Bool} (hk : ∀ c : Int, kw c = true → c < 33554432) : ∀ (m k : Nat) (v : Int), 0 ≤ v → 1 ≤ k → k ≤ 6 → lgx k v → ∃ j : Nat, 1 ≤ j ∧ j ≤ 6 ∧ lgx j (gm_zs kw m k v) ∧ 0 ≤ gm_zs kw m k v := by
  intro m
  induction m with
  | zero => intro k v v0 k1 k6 h; exact ⟨k, k1, k6, h, v0⟩
  | succ m ih =>
    intro k v v0 k1 k6 h
    show ∃ j : Nat, 1 ≤ j ∧ j ≤ 6 ∧ lgx j (if kw v then gm_zs kw m (k + 1) (v + 26 * 32 ^ k) else v) ∧ 0 ≤ (if kw v then gm_zs kw m (k + 1) (v + 26 * 32 ^ k) else v)
    by_cases c : kw v = true
    · rw [if_pos c]
      have hv := hk v c
      have k5 : k ≤ 5 := by
        by_cases e : k ≤ 5
        · exact e
        · exfalso
          have e6 : k = 5 + 1 := by omega
          rw [e6] at h
          have := lgx_b 5 v v0 h
          have e32 : (32 : Int) ^ 5 = 33554432 := by decide
          omega
      have p : (0 : Int) < 32 ^ k := Int.pow_pos (by decide)
      exact ih (k + 1) _ (by omega) (by omega) (by omega) (lgx_a (by decide) (by decide) k v h)
    · rw [if_neg c]
      exact ⟨k, k1, k6, h, v0⟩
theorem gm_nm_x {kw : Int → Bool} (hk : ∀ c : Int, kw c = true → c < 33554432) (x : Int64) : 0 < (gm_nm kw x).1 ∧ lgd 6 (gm_nm kw x).1 := by
  have b := gm_vbt (gm_x x) 3 (by decide) (by decide)
  obtain ⟨l1, l2⟩ := gm_ls_x (1 + gm_v (gm_x x) 3).toNat 0 (gm_x x) 0 (by decide) rfl
  rw [Nat.zero_add] at l1
  obtain ⟨j, j1, j2, j3, j4⟩ := gm_zs_x hk 7 (1 + gm_v (gm_x x) 3).toNat _ l2 (by omega) (by omega) l1
  have e : (gm_nm kw x).1 = gm_zs kw 7 (1 + gm_v (gm_x x) 3).toNat (gm_ls (1 + gm_v (gm_x x) 3).toNat 0 (gm_x x) 0).1 := rfl
  rw [e]
  refine ⟨?_, lgd_up j 6 _ j2 (lgx_d _ _ j3)⟩
  obtain ⟨i, rfl⟩ : ∃ i, j = i + 1 := ⟨j - 1, by omega⟩
  have := lgx_b i _ j4 j3
  have p : (0 : Int) < 32 ^ i := Int.pow_pos (by decide)
  omega
/-- values of nodes that were grown -/
def gv_ok (x : Int × Int × Int) : Prop := nv_ok x ∧ (x.1 % 10 = 5 → x.2.1 ≤ 2)
def gk_A (s : gm_S) : Prop := ∀ x ∈ gm_T s, gv_ok x
section GVK
variable {g : wk_g} {kw : Int → Bool} {s t : gm_S} {r : List wk_E} {c : gm_C}
theorem gvk_c {k v : Int} (hk : 0 ≤ k ∧ k < 10) (h : gm_c k v s = some t) (hv : (k = 2 → 0 ≤ v ∧ v ≤ 9999) ∧ (k = 3 → 0 < v ∧ lgd 6 v) ∧ (k = 5 → v ≤ 2)) (hA : gk_A s) : gk_A t := by
  obtain ⟨-, -, t3, -, -⟩ := gm_c_t h
  intro x hx
  rw [t3] at hx
  rcases List.mem_append.mp hx with hx | hx
  · exact hA x hx
  · have e := List.mem_singleton.mp hx
    have m : (k + 10 * ((gm_T s).length : Int)) % 10 = k := by omega
    rw [e]
    exact ⟨⟨fun q => hv.1 (by dsimp only at q; omega), fun q => hv.2.1 (by dsimp only at q; omega)⟩, fun q => hv.2.2 (by dsimp only at q; omega)⟩
theorem gk_T (e : gm_T t = gm_T s) (hA : gk_A s) : gk_A t := fun x hx => hA x (by rw [← e]; exact hx)
theorem gvk_sg (hk : ∀ c : Int, kw c = true → c < 33554432) {u : Int} (h : gm_sg g kw u r s = some c) (hA : gk_A s) : gk_A c.2 := by
  unfold gm_sg at h
  by_cases c9 : g 119 u.toNat = 9
  · rw [if_pos c9] at h
    unfold gm_en at h
    by_cases cu : 12 ≤ wk_ul r
    · rw [if_pos cu] at h
      cases h
    · rw [if_neg cu] at h
      obtain ⟨t', h1, h2⟩ := Option.map_eq_some_iff.mp h
      subst h2
      exact gk_T gm_d_T (gvk_c (by decide) h1 ⟨fun q => absurd q (by decide), fun q => absurd q (by decide), fun q => absurd q (by decide)⟩ (gk_T (gm_T_mk _ _ _ _ _) hA))
  · rw [if_neg c9] at h
    by_cases c10 : g 119 u.toNat = 10
    · rw [if_pos c10] at h
      injection h with h
      subst h
      exact hA
    · rw [if_neg c10] at h
      by_cases c1 : g 119 u.toNat = 1
      · rw [if_pos c1] at h
        have b := gm_vbt (gm_x (gm_X s)) 10000 (by decide) (by decide)
        generalize gm_x (gm_X s) = y at h b
        generalize gm_v y 10000 = v at h b
        obtain ⟨t', h1, h2⟩ := Option.map_eq_some_iff.mp h
        subst h2
        exact gvk_c (by decide) h1 ⟨fun _ => by omega, fun q => absurd q (by decide), fun q => absurd q (by decide)⟩ (gk_T (gm_T_mk _ _ _ _ _) hA)
      · rw [if_neg c1] at h
        by_cases c2 : g 119 u.toNat = 2
        · rw [if_pos c2] at h
          have b := gm_nm_x hk (gm_X s)
          generalize (gm_nm kw (gm_X s)).1 = v at h b
          generalize (gm_nm kw (gm_X s)).2 = y at h
          obtain ⟨t', h1, h2⟩ := Option.map_eq_some_iff.mp h
          subst h2
          exact gvk_c (by decide) h1 ⟨fun q => absurd q (by decide), fun _ => b, fun q => absurd q (by decide)⟩ (gk_T (gm_T_mk _ _ _ _ _) hA)
        · rw [if_neg c2] at h
          injection h with h
          subst h
          exact hA
theorem gvk_st (hk : ∀ c : Int, kw c = true → c < 33554432) {e : wk_E} (h : gm_st g kw e r s = some c) (hA : gk_A s) : gk_A c.2 := by
  unfold gm_st at h
  by_cases c0 : e.1 = 0
  · rw [if_pos c0] at h
    have yT : gm_T (gm_y (gm_op e.2.2 s)) = gm_T (gm_op e.2.2 s) := by unfold gm_y; rw [gm_T_mk]
    have hO : gk_A (gm_op e.2.2 s) := gk_T gm_op_t hA
    by_cases c1 : g 122 e.2.1.toNat = 1
    · rw [if_pos c1] at h
      have b := gm_n_b gm_vbt 3 (by decide) (by decide) s
      generalize gm_n 3 s = n at h b
      generalize gm_y (gm_op e.2.2 s) = sy at h yT
      obtain ⟨t', h1, h2⟩ := Option.map_eq_some_iff.mp h
      subst h2
      exact gk_T gm_d_T (gvk_c (by decide) h1 ⟨fun q => absurd q (by decide), fun q => absurd q (by decide), fun _ => by omega⟩ (gk_T yT hO))
    · rw [if_neg c1] at h
      by_cases c2 : g 122 e.2.1.toNat = 2
      · rw [if_pos c2] at h
        generalize gm_n 2 s = n at h
        generalize gm_y (gm_op e.2.2 s) = sy at h yT
        obtain ⟨t', h1, h2⟩ := Option.bind_eq_some_iff.mp h
        have hd : gk_A (gm_d t') := gk_T gm_d_T (gvk_c (by decide) h1 ⟨fun q => absurd q (by decide), fun q => absurd q (by decide), fun q => absurd q (by decide)⟩ (gk_T yT hO))
        by_cases cn : 0 < n
        · rw [if_pos cn] at h2
          exact gvk_sg hk h2 hd
        · rw [if_neg cn] at h2
          injection h2 with h2
          subst h2
          exact hd
      · rw [if_neg c2] at h
        exact gvk_sg hk h hO
  · rw [if_neg c0] at h
    by_cases c1 : e.1 = 1
    · rw [if_pos c1] at h
      by_cases cf : 1 < g 130 e.2.1.toNat
      · rw [if_pos cf] at h
        have yT : gm_T (gm_y s) = gm_T s := by unfold gm_y; rw [gm_T_mk]
        generalize gm_w g e.2.1 s = n at h
        generalize gm_y s = sy at h yT
        obtain ⟨t', h1, h2⟩ := Option.map_eq_some_iff.mp h
        subst h2
        exact gk_T gm_d_T (gvk_c (by decide) h1 ⟨fun q => absurd q (by decide), fun q => absurd q (by decide), fun q => absurd q (by decide)⟩ (gk_T yT hA))
      · rw [if_neg cf] at h
        injection h with h
        subst h
        exact hA
    · rw [if_neg c1] at h
      by_cases c5 : e.1 = 5
      · rw [if_pos c5] at h
        by_cases cn : 0 < e.2.2
        · rw [if_pos cn] at h
          exact gvk_sg hk h hA
        · rw [if_neg cn] at h
          injection h with h
          subst h
          exact hA
      · rw [if_neg c5] at h
        by_cases c2 : e.1 = 2
        · rw [if_pos c2] at h
          injection h with h
          subst h
          exact gk_T (gm_T_mk _ _ _ _ _) hA
        · rw [if_neg c2] at h
          by_cases c3 : e.1 = 3
          · rw [if_pos c3] at h
            injection h with h
            subst h
            exact gk_T gm_mid_T hA
          · rw [if_neg c3] at h
            injection h with h
            subst h
            intro x hx
            unfold gm_tu at hx
            split at hx
            · exact hA x hx
            · exact hA x (mem_rot' hx)
theorem gvk_to (hk : ∀ c : Int, kw c = true → c < 33554432) {c' : gm_C} : ∀ (n : Nat) (c : gm_C), gm_to g kw n c c' → gk_A c.2 → gk_A c'.2 := by
  intro n
  induction n with
  | zero =>
    intro c h hA
    have h : c = c' := h
    rw [← h]
    exact hA
  | succ n ih =>
    intro c h hA
    obtain ⟨e, r, c1, -, h2, h3⟩ := h
    exact ih c1 h3 (gvk_st hk h2 hA)
/-- the values of a grown tree -/
theorem gvk_grow (hk : ∀ c : Int, kw c = true → c < 33554432) {x : Int64} {fu : Int} {s' : gm_S} {n : Nat} (h : gm_to g kw n (gr_c0 g x fu) ([], s')) : ∀ y ∈ gm_T s', gv_ok y := by
  refine gvk_to hk n _ h ?_
  intro y hy
  have hy : y ∈ [((1, 0, 0) : Int × Int × Int)] := hy
  rw [List.mem_singleton.mp hy]
  exact ⟨⟨fun q => absurd q (by decide), fun q => absurd q (by decide)⟩, fun q => absurd q (by decide)⟩
end GVK
