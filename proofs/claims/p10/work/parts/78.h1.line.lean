/-! line, directed, lowest -/
def wk_row (g : wk_g) : Nat → Int → List Int
  | 0, _ => []
  | n + 1, u => if u < 0 then [] else if 0 ≤ g 124 u.toNat then u :: g 124 u.toNat :: wk_row g n (g 125 u.toNat) else u :: wk_row g n (g 125 u.toNat)
def wk_en (g : wk_g) : Int → List Int → List wk_E
  | _, [] => []
  | q, x :: r => (if 0 ≤ q ∧ g 124 q.toNat = x then [(3, 0, 0), (0, x, if 0 ≤ g 124 x.toNat then 1 else 0), (4, 0, 0)] else [(0, x, if 0 ≤ g 124 x.toNat then 1 else 0)]) ++ wk_en g x r
/-- items go on to greater units -/
def wk_C (g : wk_g) (U : Int) : Prop := U ≤ 60 ∧ ∀ u, 0 ≤ u → u < U → (0 ≤ g 124 u.toNat → g 124 u.toNat < U ∧ u < g 124 u.toNat ∧ g 124 (g 124 u.toNat).toNat < 0) ∧ (0 ≤ g 125 u.toNat → g 125 u.toNat < U ∧ u < g 125 u.toNat ∧ (0 ≤ g 124 u.toNat → g 124 u.toNat < g 125 u.toNat))
theorem wk_L_C {g : wk_g} {Y : wk_Y} (hL : wk_L g Y) : wk_C g (wk_u Y) := by
  refine ⟨hL.1, fun u h0 h1 => ?_⟩
  obtain ⟨⟨a1, a2, -⟩, a3, a4, -⟩ := hL.2.2.1 u h0 h1
  refine ⟨fun hm => ?_, fun hn => ?_⟩
  · have := a3 hm
    exact ⟨this.1, by omega, this.2.2.2⟩
  · have b := a4 hn
    refine ⟨b.1, by omega, fun hm => ?_⟩
    have c := a3 hm
    obtain ⟨⟨d1, -⟩, -⟩ := hL.2.2.1 _ hm c.1
    have := b.2.2.2 hm
    omega
theorem wk_en_row {g : wk_g} {U : Int} (hC : wk_C g U) : ∀ (N : Nat) (u q : Int), (u < 0 ∨ u < U) → (0 ≤ q → g 124 q.toNat ≠ u ∨ u < 0) → wk_en g q (wk_row g N u) = wk_it g N u := by
  intro N
  induction N with
  | zero => intro u q _ _; rfl
  | succ N ih =>
    intro u q hu hq
    unfold wk_row wk_it
    by_cases hneg : u < 0
    · rw [if_pos hneg, if_pos hneg]
      rfl
    · rw [if_neg hneg, if_neg hneg]
      obtain ⟨c1, c2⟩ := hC.2 u (by omega) (by omega)
      have nq : ¬ (0 ≤ q ∧ g 124 q.toNat = u) := fun z => by
        rcases hq z.1 with e | e
        · exact e z.2
        · exact hneg e
      have hv : g 125 u.toNat < 0 ∨ g 125 u.toNat < U := by
        by_cases h0 : 0 ≤ g 125 u.toNat
        · exact Or.inr (c2 h0).1
        · exact Or.inl (by omega)
      by_cases hm : 0 ≤ g 124 u.toNat
      · rw [if_pos hm, if_pos hm]
        have c1 := c1 hm
        have n124 : ¬ 0 ≤ g 124 (g 124 u.toNat).toNat := by omega
        show (if 0 ≤ q ∧ g 124 q.toNat = u then _ else _) ++ ((if 0 ≤ u ∧ g 124 u.toNat = g 124 u.toNat then _ else _) ++ wk_en g (g 124 u.toNat) (wk_row g N (g 125 u.toNat))) = _
        rw [if_neg nq, if_pos hm, if_pos ⟨by omega, rfl⟩, if_neg n124, ih _ _ hv (fun _ => by
          by_cases h0 : g 125 u.toNat < 0
          · exact Or.inr h0
          · exact Or.inl (by omega))]
        rfl
      · rw [if_neg hm, if_neg hm]
        show (if 0 ≤ q ∧ g 124 q.toNat = u then _ else _) ++ wk_en g u (wk_row g N (g 125 u.toNat)) = _
        rw [if_neg nq, if_neg hm, ih _ _ hv (fun _ => by
          by_cases h0 : g 125 u.toNat < 0
          · exact Or.inr h0
          · exact Or.inl (by omega))]
        rfl
section LIN
variable {d : Nat} {h0 : sm_H} {U zf : Int}
theorem me_liB (hS0 : ab_Sh sx_sk h0) (hC : wk_C (mi_a h0) U) (of : mi_in zf) : ∀ (N : Nat) (zu zn : Int) (h : sm_H), ab_Sh sx_sk h → ab_Fr [(18560, 18561)] h0 h → 0 ≤ zn → zn ≤ 60 → (zu < 0 ∨ (zu < U ∧ zn ≤ zu)) → (zu < 0 ∨ 60 - zu < N) → mi_in zu → me_E d 197 9 [some (.inr (.inr 109)), some (.inl zf), some (.inl zn), some (.inl zu)] [] h (fun w h' => ab_Sh sx_sk h' ∧ ab_Fr [(18560, 18561)] h0 h' ∧ w = some (.inl (zn + ((wk_row (mi_a h0) N zu).length : Int))) ∧ zn + ((wk_row (mi_a h0) N zu).length : Int) ≤ 60 ∧ (∀ (k : Nat) (x : Int), (wk_row (mi_a h0) N zu)[k]? = some x → mi_a h' 145 (zn.toNat + k) = x ∧ 0 ≤ x ∧ x < U) ∧ ∀ k : Nat, k < zn.toNat → mi_a h' 145 k = mi_a h 145 k) := by
  intro N
  induction N with
  | zero =>
    intro zu zn h hS hF h1 h2 h3 h4 ou
    have on : mi_in zn := ⟨by omega, by omega⟩
    have := hC.1
    refine mt_liB hS of on ou ?_ ?_ ?_
    · intro c h1' g1 g2
      have e := me_nil g2
      subst e
      refine ⟨g1, hF, ?_, ?_, fun k x hk => ?_, fun k _ => rfl⟩
      · show _ = some (Sum.inl (zn + (0 : Int)))
        rw [Int.add_zero]
      · show zn + (0 : Int) ≤ 60
        omega
      · simp [wk_row] at hk
    · intro c1 c2
      exfalso; omega
    · intro c1 c2
      exfalso; omega
  | succ N ih =>
    intro zu zn h hS hF h1 h2 h3 h4 ou
    have on : mi_in zn := ⟨by omega, by omega⟩
    have hU := hC.1
    have e124 : ∀ i, mi_a h 124 i = mi_a h0 124 i := fun i => me_a (k := 124) hF hS0 rfl rfl
    have e125 : ∀ i, mi_a h 125 i = mi_a h0 125 i := fun i => me_a (k := 125) hF hS0 rfl rfl
    refine mt_liB hS of on ou ?_ ?_ ?_
    · intro c h1' g1 g2
      have e := me_nil g2
      subst e
      have er : wk_row (mi_a h0) (N + 1) zu = [] := by unfold wk_row; rw [if_pos c]
      rw [er]
      refine ⟨g1, hF, ?_, ?_, fun k x hk => by simp at hk, fun k _ => rfl⟩
      · show _ = some (Sum.inl (zn + (0 : Int)))
        rw [Int.add_zero]
      · show zn + (0 : Int) ≤ 60
        omega
    · intro c1 c2
      have hz : zu < U ∧ zn ≤ zu := by omega
      rw [e124] at c2
      obtain ⟨k1, k2⟩ := hC.2 zu c1 hz.1
      have b125 := me_ab (k := 125) (i := zu.toNat) hS rfl (by decide) (by omega)
      refine ⟨by omega, fun h1' g1 g2 g3 => ?_⟩
      have er : wk_row (mi_a h0) (N + 1) zu = zu :: wk_row (mi_a h0) N (mi_a h0 125 zu.toNat) := by rw [wk_row, if_neg (by omega), if_neg (by omega)]
      rw [er]
      rw [e125] at b125 ⊢
      refine (ih (mi_a h0 125 zu.toNat) (zn + 1) h1' g1 (hF.trans g3) (by omega) (by omega) ?_ ?_ ⟨by omega, by omega⟩).imp (fun w h' hq => ?_)
      · by_cases h0' : 0 ≤ mi_a h0 125 zu.toNat
        · have := k2 h0'
          exact Or.inr ⟨this.1, by omega⟩
        · exact Or.inl (by omega)
      · by_cases h0' : 0 ≤ mi_a h0 125 zu.toNat
        · have := k2 h0'
          exact Or.inr (by omega)
        · exact Or.inl (by omega)
      · obtain ⟨q1, q2, q3, q4, q5, q6⟩ := hq
        have el : (((zu :: wk_row (mi_a h0) N (mi_a h0 125 zu.toNat)).length : Nat) : Int) = 1 + ((wk_row (mi_a h0) N (mi_a h0 125 zu.toNat)).length : Int) := by rw [List.length_cons]; omega
        refine ⟨q1, q2, ?_, by rw [el]; omega, fun k x hk => ?_, fun k hk => ?_⟩
        · rw [q3, el, Int.add_assoc]
        · cases k with
          | zero =>
            simp at hk
            subst hk
            refine ⟨?_, c1, hz.1⟩
            rw [Nat.add_zero, q6 _ (by omega), g2, if_pos rfl]
          | succ k =>
            simp at hk
            have := q5 k x hk
            have e : zn.toNat + (k + 1) = (zn + 1).toNat + k := by omega
            rw [e]
            exact this
        · rw [q6 k (by omega), g2, if_neg (by omega)]
    · intro c1 c2
      have hz : zu < U ∧ zn ≤ zu := by omega
      rw [e124] at c2
      obtain ⟨k1, k2⟩ := hC.2 zu c1 hz.1
      have k1 := k1 c2
      have b125 := me_ab (k := 125) (i := zu.toNat) hS rfl (by decide) (by omega)
      rw [e125] at b125
      rw [e124]
      refine ⟨by omega, fun h1' g1 g2 g3 => ?_⟩
      have er : wk_row (mi_a h0) (N + 1) zu = zu :: mi_a h0 124 zu.toNat :: wk_row (mi_a h0) N (mi_a h0 125 zu.toNat) := by rw [wk_row, if_neg (by omega), if_pos c2]
      rw [er]
      rw [e125]
      refine (ih (mi_a h0 125 zu.toNat) (zn + 1 + 1) h1' g1 (hF.trans g3) (by omega) (by omega) ?_ ?_ ⟨by omega, by omega⟩).imp (fun w h' hq => ?_)
      · by_cases h0' : 0 ≤ mi_a h0 125 zu.toNat
        · have b := k2 h0'
          have := b.2.2 c2
          exact Or.inr ⟨b.1, by omega⟩
        · exact Or.inl (by omega)
      · by_cases h0' : 0 ≤ mi_a h0 125 zu.toNat
        · have := k2 h0'
          exact Or.inr (by omega)
        · exact Or.inl (by omega)
      · obtain ⟨q1, q2, q3, q4, q5, q6⟩ := hq
        have el : (((zu :: mi_a h0 124 zu.toNat :: wk_row (mi_a h0) N (mi_a h0 125 zu.toNat)).length : Nat) : Int) = 2 + ((wk_row (mi_a h0) N (mi_a h0 125 zu.toNat)).length : Int) := by rw [List.length_cons, List.length_cons]; omega
        refine ⟨q1, q2, ?_, by rw [el]; omega, fun k x hk => ?_, fun k hk => ?_⟩
        · rw [q3, el]
          congr 2
          omega
        · cases k with
          | zero =>
            simp at hk
            subst hk
            refine ⟨?_, c1, hz.1⟩
            rw [Nat.add_zero, q6 _ (by omega), g2, if_neg (by omega), if_pos rfl]
          | succ k =>
            cases k with
            | zero =>
              simp at hk
              subst hk
              refine ⟨?_, c2, k1.1⟩
              rw [q6 _ (by omega), g2, if_pos (by omega)]
            | succ k =>
              simp at hk
              have := q5 k x hk
              have e : zn.toNat + (k + 1 + 1) = (zn + 1 + 1).toNat + k := by omega
              rw [e]
              exact this
        · rw [q6 k (by omega), g2, if_neg (by omega), if_neg (by omega)]
theorem me_line (hS : ab_Sh sx_sk h0) (hC : wk_C (mi_a h0) U) (hf0 : 0 ≤ zf) (hf1 : zf < 80) (hu : mi_a h0 126 zf.toNat < 0 ∨ mi_a h0 126 zf.toNat < U) : me_E d 197 0 [some (.inr (.inr 109)), some (.inl zf), none, none] [] h0 (fun w h' => ab_Sh sx_sk h' ∧ ab_Fr [(18560, 18561)] h0 h' ∧ w = some (.inl ((wk_row (mi_a h0) 61 (mi_a h0 126 zf.toNat)).length : Int)) ∧ ((wk_row (mi_a h0) 61 (mi_a h0 126 zf.toNat)).length : Int) ≤ 60 ∧ ∀ (k : Nat) (x : Int), (wk_row (mi_a h0) 61 (mi_a h0 126 zf.toNat))[k]? = some x → mi_a h' 145 k = x ∧ 0 ≤ x ∧ x < U) := by
  have of : mi_in zf := ⟨by omega, by omega⟩
  have hU := hC.1
  have b126 := me_ab (k := 126) (i := zf.toNat) hS rfl (by decide) (by omega)
  refine mt_liA hS of ?_
  refine ⟨by omega, fun h1 g1 g2 => ?_⟩
  have e := me_nil g2
  subst e
  refine (me_liB hS hC of 61 (mi_a h1 126 zf.toNat) 0 h1 hS ab_Fr.refl (by decide) (by decide) ?_ (by omega) ⟨by omega, by omega⟩).imp (fun w h' hq => ?_)
  · rcases hu with e | e
    · exact Or.inl e
    · by_cases h0' : 0 ≤ mi_a h1 126 zf.toNat
      · exact Or.inr ⟨e, h0'⟩
      · exact Or.inl (by omega)
  · obtain ⟨q1, q2, q3, q4, q5, q6⟩ := hq
    refine ⟨q1, q2, by rw [q3, Int.zero_add], by omega, fun k x hk => ?_⟩
    have := q5 k x hk
    simpa using this
end LIN
