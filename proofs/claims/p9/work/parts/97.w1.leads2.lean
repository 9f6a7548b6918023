/-! the reference's leads: they come to rest -/
section LRS
variable {β : Int → Int64} {n : Nat} {G : sg_G}
def lA (β : Int → Int64) (G : sg_G) (k : Nat) : sp_X := ((sr_k G k).1, lr_k β G k, (sr_k G k).2.2)
theorem lr_inc (hG : sg_OK n G) : ∀ (k F : Nat), F < n → tl (lr_k β G k F) (lr_k β G (k + 1) F) := by
  intro k
  induction k with
  | zero => intro F _; exact tl_0 _
  | succ k ih =>
    intro F hF
    have u := (sr_up hG (sr_k_up hG k)).1
    exact sl_f_m (fun F hF q => (u F hF).1 q) ih (G F) (fun us hu => (hG F hF us hu).1)
theorem lr_stop (hG : sg_OK n G) {k : Nat} (hk : 2 * n ≤ k) : ∀ F : Nat, F < n → lr_k β G (k + 1) F = lr_k β G k F := by
  have := sp_conv (n := n) (A := lA β G) (fun k F hF => ⟨((sr_up hG (sr_k_up hG k)).1 F hF).1, fun b q => lr_inc hG k F hF b q, ((sr_up hG (sr_k_up hG k)).1 F hF).2.2⟩) (fun k => sr_k_01 k) (fun k h => (sr_c hG).1 h) (fun k b h => ⟨(sr_c hG).1 h.1, fun F hF => ?_⟩) (fun k s h => (sr_c hG).2.2 s h) hk
  · exact fun F hF => (this F hF).2.1
  · show tb (sl_f β (sr_k G (k + 1)) (lr_k β G (k + 1)) (G F)) b = tb (sl_f β (sr_k G k) (lr_k β G k) (G F)) b
    exact sl_f_b (β := β) (n := n) (X := sr_k G (k + 1)) (Y := sr_k G k) h.1 h.2 (G F) (fun us hu => (hG F hF us hu).1)
end LRS
