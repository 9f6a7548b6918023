/-! literals and firsts of pairs, beside the class's rows; how long keywords are -/
def TLW (g : wk_g) (h : sm_H) : Prop := sWr g h ∧ mi_f h 7698 = g 0 4 ∧ ∀ l : Nat, (l : Int) < g 0 4 → mi_a h 75 l = g 117 l
theorem TLW_of {f : Int → Int} {ow : Nat → Nat} {g : wk_g} {h : sm_H} (hU : CU f ow g (g 0 0) h) (hr : PSr g) : TLW g h := by
  obtain ⟨h0, s0, ⟨⟨c0, c1, c2, c3, c4⟩, d1, d2, d3, d4, d5, d6, d7, d8, d9, dw⟩, hF, h69⟩ := hU
  have hw := sW_r dw hr
  refine ⟨fun u hu => ?_, (me_f (c := 7698) hF s0 rfl rfl).trans c3, fun l hl => ?_⟩
  · rw [me_a (k := 74) hF s0 rfl rfl]
    exact hw u hu
  · rw [me_a (k := 75) hF s0 rfl rfl]
    exact d8 l hl
theorem TLW_fr {g : wk_g} {h h' : sm_H} {wr : List (Nat × Nat)} (hT : TLW g h) (hS : ab_Sh sx_sk h) (hF : ab_Fr wr h h') (hw : (ab_in wr 9472 || ab_in wr 7698 || ab_in wr 9600) = false) : TLW g h' := by
  simp only [Bool.or_eq_false_iff] at hw
  obtain ⟨t1, t2, t3⟩ := hT
  refine ⟨fun u hu => ?_, (me_f (c := 7698) hF hS rfl hw.1.2).trans t2, fun l hl => ?_⟩
  · rw [me_a (k := 74) hF hS rfl hw.1.1]
    exact t1 u hu
  · rw [me_a (k := 75) hF hS rfl hw.2]
    exact t3 l hl
/-- literals' codes are small -/
def PL (g : wk_g) : Prop := 0 ≤ g 0 4 ∧ ∀ l : Nat, (l : Int) < g 0 4 → g 117 l < 33554432
section PLL
variable {n : Int} {c : Nat → Int} {g g' : wk_g}
theorem tk_v {a t v p e : Int} (h : tk_T n c a t v p e) : (t = 3 → v < 33554432) ∧ (t = 4 → 0 ≤ v) := by
  obtain ⟨-, h⟩ := h
  rcases h with ⟨-, h⟩ | ⟨-, h⟩
  · exact ⟨fun e => by omega, fun e => by omega⟩
  rcases h with h | h | h | h | h | h | h
  · exact ⟨fun e => by have := h.2.1; omega, fun e => by have := h.2.1; omega⟩
  · exact ⟨fun e => by have := h.2.1; omega, fun e => by have := h.2.1; omega⟩
  · exact ⟨fun e => by have := h.2.1; omega, fun e => by have := h.2.1; omega⟩
  · obtain ⟨-, q, hq, h⟩ := h
    rcases h with ⟨h1, h2, h3, h4, h5, h6, h7⟩ | ⟨-, h⟩
    · refine ⟨fun _ => ?_, fun e => by omega⟩
      have cb := tx_code_b (c := c) (q - (p + 1)).toNat (p + 1) (fun j j1 j2 => (hq.2.1 j j1 (by omega)).2)
      have p5 : (32 : Int) ^ (q - (p + 1)).toNat ≤ 32 ^ 5 := by
        have : (32 : Nat) ^ (q - (p + 1)).toNat ≤ 32 ^ 5 := Nat.pow_le_pow_right (by decide) (by omega)
        exact_mod_cast this
      have e32 : (32 : Int) ^ 5 = 33554432 := by decide
      omega
    · exact ⟨fun e => by omega, fun e => by omega⟩
  · obtain ⟨-, h⟩ := h
    rcases h with ⟨h1, h2, h3, h4, h5⟩ | ⟨-, h⟩
    · exact ⟨fun e => by omega, fun e => by have := h2.1; omega⟩
    · exact ⟨fun e => by omega, fun e => by omega⟩
  · obtain ⟨h1, h2, -⟩ := h
    unfold tx_own at h1
    exact ⟨fun e => by omega, fun e => by omega⟩
  · have := h.2.2.2.2.2.2
    exact ⟨fun e => by omega, fun e => by omega⟩
theorem PL_cg (h : PL g) (e4 : g' 0 4 = g 0 4) (a : g' 117 = g 117) : PL g' := by
  unfold PL at h ⊢
  rw [e4, a]
  exact h
theorem PL_lit {x : Int} (h : PL g) (hx : x < 33554432) : PL (rf_lit g x) := by
  obtain ⟨h1, h2⟩ := h
  refine ⟨by show 0 ≤ g 0 4 + 1; omega, fun l hl => ?_⟩
  have hl : (l : Int) < g 0 4 + 1 := hl
  show (if l = (g 0 4).toNat then x else g 117 l) < 33554432
  split
  · exact hx
  · exact h2 l (by omega)
theorem PL_rp {t v p : Int} (h : PL g) (h3 : t = 3 → v < 33554432) (h4 : t = 4 → 0 ≤ v) (hr : rp_R g t v p g') : PL g' := by
  rcases hr with ⟨e1, e2⟩ | ⟨e1, z, gl, e2, e3⟩ | ⟨e1, e2⟩
  · rw [e2]
    exact PL_cg h rfl rfl
  · rw [e3]
    rcases e2 with ⟨x1, x2, x3, x4, x5⟩ | ⟨x1, x2, x3, x4⟩
    · rw [x5]
      exact PL_cg h rfl rfl
    · rw [x4]
      refine PL_cg (PL_lit h (x := lc_t t v) ?_) rfl rfl
      unfold lc_t
      split
      · next q => exact h3 q
      · next q =>
        have := h4 (by omega)
        omega
  · rw [e2]
    exact PL_cg h rfl rfl
theorem PL_T {x y : ft_X} (h : PL x.1) (ht : ft_T n c x y) : PL y.1 := by
  obtain ⟨t, v, p, e, k1, k2⟩ := ht
  obtain ⟨v3, v4⟩ := tk_v k1
  rcases k2 with ⟨hip, -, g1, r1, r2⟩ | ⟨nip, -, m⟩
  · have q1 := PL_rp h v3 v4 r1
    rcases r2 with ⟨-, r3⟩ | ⟨-, g2, a2, r3, r4, r5⟩
    · rw [r3]
      exact q1
    · rw [r5]
      by_cases cn : t = 1 ∧ so_r v = 1
      · obtain ⟨t2, v2, p2, e2, l1, l2⟩ := r3 cn
        rcases l2 with ⟨-, l3, l4⟩ | ⟨l3, v3, p3, l4, l5⟩
        · rw [l3]
          exact q1
        · rw [l5]
          exact PL_cg q1 rfl rfl
      · obtain ⟨l1, l2⟩ := r4 cn
        rw [l1]
        exact q1
  · rcases m with ⟨m1, -, m3⟩ | ⟨m1, -, m3⟩ | ⟨m1, -, m3⟩ | ⟨m1, -, m3⟩
    all_goals
      rw [m3]
      exact PL_cg h rfl rfl
theorem PL_Tr {y : ft_X} : ∀ (k : Nat) (x : ft_X), PL x.1 → ft_Tr n c k x y → PL y.1 := by
  intro k
  induction k with
  | zero => intro x h e; have e : x = y := e; rw [← e]; exact h
  | succ k ih => intro x h e; obtain ⟨z, e1, e2⟩ := e; exact ih z (PL_T h e1) e2
theorem PL_ruTr {s' : wk_g × Int} : ∀ (k : Nat) (s : wk_g × Int), PL s.1 → ru_Tr n c k s s' → PL s'.1 := by
  intro k
  induction k with
  | zero => intro s h e; have e : s = s' := e; rw [← e]; exact h
  | succ k ih =>
    intro s h e
    obtain ⟨z, ⟨v, p, e', v2, p2, e2', y, k1, -, -, k4, ⟨k', k5, -⟩, k7⟩, e2⟩ := e
    refine ih z ?_ e2
    rw [k7]
    exact PL_Tr k' _ (show PL (ru_x s.1 v p e2').1 from PL_cg h rfl rfl) k5
theorem PL_D {g0 : wk_g} (h0 : rz_0 g0) (h : rz_D n c g0 g) : PL g := by
  obtain ⟨k, a, hk, -⟩ := h
  exact PL_ruTr k (g0, 0) ⟨by have := h0.1.2.2.2.2; show 0 ≤ g0 0 4; omega, fun l hl => by have hl : (l : Int) < g0 0 4 := hl; have := h0.1.2.2.2.2; omega⟩ hk
end PLL
