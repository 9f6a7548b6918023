/-! the reference's leads, purely -/
def cl_R (β : Int → Int64) (L : Nat → Int64) (p : sp_P) : Int64 := if p.2.1 ≠ 0 then β p.1 else if 0 ≤ p.1 then L p.1.toNat else 0
def sl_a (β : Int → Int64) (X : sp_X) (L : Nat → Int64) : List sp_P → Int64
  | [] => 0
  | p :: r => if sp_e X p then cl_R β L p ||| sl_a β X L r else cl_R β L p
theorem sl_a_c {β : Int → Int64} {X : sp_X} {L : Nat → Int64} {p : sp_P} {r : List sp_P} : sl_a β X L (p :: r) = if sp_e X p then cl_R β L p ||| sl_a β X L r else cl_R β L p := rfl
def sl_f (β : Int → Int64) (X : sp_X) (L : Nat → Int64) : List (List sp_P) → Int64
  | [] => 0
  | a :: r => sl_a β X L a ||| sl_f β X L r
theorem sl_f_c {β : Int → Int64} {X : sp_X} {L : Nat → Int64} {a : List sp_P} {r : List (List sp_P)} : sl_f β X L (a :: r) = sl_a β X L a ||| sl_f β X L r := rfl
def lr_k (β : Int → Int64) (G : sg_G) : Nat → Nat → Int64
  | 0, _ => 0
  | k + 1, F => sl_f β (sr_k G k) (lr_k β G k) (G F)
section LRK
variable {β : Int → Int64} {n : Nat} {X Y : sp_X} {L M : Nat → Int64}
theorem cl_b {b : Nat} {p : sp_P} (h : ∀ F : Nat, F < n → tb (L F) b = tb (M F) b) (hp : p.1 < n) : tb (cl_R β L p) b = tb (cl_R β M p) b := by
  unfold cl_R
  by_cases c : p.2.1 ≠ 0
  · rw [if_pos c, if_pos c]
  · rw [if_neg c, if_neg c]
    by_cases c0 : 0 ≤ p.1
    · rw [if_pos c0, if_pos c0]; exact h _ (by omega)
    · rw [if_neg c0, if_neg c0]
theorem sl_a_b {b : Nat} (hv : sE_v n X Y) (h : ∀ F : Nat, F < n → tb (L F) b = tb (M F) b) : ∀ us, sg_ok n us → tb (sl_a β X L us) b = tb (sl_a β Y M us) b := by
  intro us
  induction us with
  | nil => intro _; rfl
  | cons p r ih =>
    intro ho
    have e := sE_e hv (ho p List.mem_cons_self)
    have e2 := cl_b (β := β) h (ho p List.mem_cons_self)
    have i := ih (fun q hq => ho q (List.mem_cons_of_mem _ hq))
    rw [sl_a_c, sl_a_c]
    by_cases c : sp_e X p
    · rw [if_pos c, if_pos (e.mp c), tb_or, tb_or, i, e2]
    · rw [if_neg c, if_neg (fun q => c (e.mpr q)), e2]
theorem sl_f_b {b : Nat} (hv : sE_v n X Y) (h : ∀ F : Nat, F < n → tb (L F) b = tb (M F) b) : ∀ as, (∀ us ∈ as, sg_ok n us) → tb (sl_f β X L as) b = tb (sl_f β Y M as) b := by
  intro as
  induction as with
  | nil => intro _; rfl
  | cons a r ih =>
    intro ho
    rw [sl_f_c, sl_f_c, tb_or, tb_or, sl_a_b hv h a (ho a List.mem_cons_self), ih (fun q hq => ho q (List.mem_cons_of_mem _ hq))]
theorem cl_m {p : sp_P} (h : ∀ F : Nat, F < n → tl (L F) (M F)) (hp : p.1 < n) : tl (cl_R β L p) (cl_R β M p) := by
  unfold cl_R
  by_cases c : p.2.1 ≠ 0
  · rw [if_pos c, if_pos c]; exact tl_refl _
  · rw [if_neg c, if_neg c]
    by_cases c0 : 0 ≤ p.1
    · rw [if_pos c0, if_pos c0]; exact h _ (by omega)
    · rw [if_neg c0, if_neg c0]; exact tl_refl _
theorem sl_a_m (hv : ∀ F : Nat, F < n → X.1 F ≠ 0 → Y.1 F ≠ 0) (h : ∀ F : Nat, F < n → tl (L F) (M F)) : ∀ us, sg_ok n us → tl (sl_a β X L us) (sl_a β Y M us) := by
  intro us
  induction us with
  | nil => intro _; exact tl_refl _
  | cons p r ih =>
    intro ho
    have hp := ho p List.mem_cons_self
    have e : sp_e X p → sp_e Y p := fun q => by
      rcases q with q | q
      · exact Or.inl q
      · refine Or.inr ?_
        unfold sp_v at q ⊢
        by_cases c : 0 ≤ p.1
        · rw [if_pos c] at q ⊢; exact hv _ (by omega) q
        · rw [if_neg c] at q ⊢; exact q
    have e2 := cl_m (β := β) h hp
    have i := ih (fun q hq => ho q (List.mem_cons_of_mem _ hq))
    rw [sl_a_c, sl_a_c]
    by_cases c : sp_e X p
    · rw [if_pos c, if_pos (e c)]
      exact tl_or2 e2 i
    · rw [if_neg c]
      by_cases c2 : sp_e Y p
      · rw [if_pos c2]; exact tl_tr e2 (tl_l _ _)
      · rw [if_neg c2]; exact e2
theorem sl_f_m (hv : ∀ F : Nat, F < n → X.1 F ≠ 0 → Y.1 F ≠ 0) (h : ∀ F : Nat, F < n → tl (L F) (M F)) : ∀ as, (∀ us ∈ as, sg_ok n us) → tl (sl_f β X L as) (sl_f β Y M as) := by
  intro as
  induction as with
  | nil => intro _; exact tl_refl _
  | cons a r ih =>
    intro ho
    rw [sl_f_c, sl_f_c]
    exact tl_or2 (sl_a_m hv h a (ho a List.mem_cons_self)) (ih (fun q hq => ho q (List.mem_cons_of_mem _ hq)))
end LRK
