/-! with which uses a form begins: what the reference closes is what the class works out -/
/-- a part before which all may be passed -/
def zP (e : sp_P → Prop) : List sp_P → sp_P → Prop
  | [], _ => False
  | q :: r, p => p = q ∨ (e q ∧ zP e r p)
def zQ (e : sp_P → Prop) (as : List (List sp_P)) (p : sp_P) : Prop := ∃ us, us ∈ as ∧ zP e us p
/-- paths whose places between are below q -/
def wa (E : Nat → Nat → Prop) : Nat → Nat → Nat → Prop
  | 0, r, b => E r b
  | q + 1, r, b => wa E q r b ∨ (wa E q r q ∧ wa E q q b)
section WA
variable {E T : Nat → Nat → Prop}
theorem wa_E {r b : Nat} (h : E r b) : ∀ n, wa E n r b := by
  intro n
  induction n with
  | zero => exact h
  | succ n ih => exact Or.inl ih
theorem wa_tr : ∀ (n q : Nat), q < n → ∀ r b, wa E n r q → wa E n q b → wa E n r b := by
  intro n
  induction n with
  | zero => intro q hq; omega
  | succ n ih =>
    intro q hq r b h1 h2
    by_cases c : q = n
    · subst c
      have k1 : wa E q r q := by
        rcases h1 with h1 | h1
        · exact h1
        · exact h1.1
      have k2 : wa E q q b := by
        rcases h2 with h2 | h2
        · exact h2
        · exact h2.2
      exact Or.inr ⟨k1, k2⟩
    · have hq' : q < n := by omega
      rcases h1 with h1 | ⟨h1, h1'⟩
      · rcases h2 with h2 | ⟨h2, h2'⟩
        · exact Or.inl (ih q hq' r b h1 h2)
        · exact Or.inr ⟨ih q hq' r n h1 h2, h2'⟩
      · rcases h2 with h2 | ⟨h2, h2'⟩
        · exact Or.inr ⟨h1, ih q hq' n b h1' h2⟩
        · exact Or.inr ⟨h1, h2'⟩
theorem wa_least (hE : ∀ r b, E r b → T r b) (hT : ∀ r q b, T r q → T q b → T r b) : ∀ n r b, wa E n r b → T r b := by
  intro n
  induction n with
  | zero => exact hE
  | succ n ih =>
    intro r b h
    rcases h with h | ⟨h, h'⟩
    · exact ih r b h
    · exact hT r n b (ih r n h) (ih n b h')
end WA
/-- closed: as the reference has it, as the class has it -/
def zl_c (e : sp_P → Prop) (bt : sp_P → Nat) (nf : Nat) (G : sg_G) (S : Nat → Nat → Prop) : Prop := ∀ F : Nat, F < nf → ∀ p, zQ e (G F) p → (p.2.1 ≠ 0 → S F (bt p)) ∧ (p.2.1 = 0 → 0 ≤ p.1 → ∀ b, S p.1.toNat b → S F b)
def zb_c (e : sp_P → Prop) (bt : sp_P → Nat) (nf : Nat) (G : sg_G) (S : Nat → Nat → Prop) : Prop := ∀ F : Nat, F < nf → ∀ p, zQ e (G F) p → (p.2.1 ≠ 0 → S F (bt p)) ∧ (0 ≤ p.1 → ∀ b, S p.1.toNat b → S F b)
theorem zz_same {e : sp_P → Prop} {bt : sp_P → Nat} {nf nr : Nat} {G : sg_G} {rf : Nat → Nat} {L B : Nat → Nat → Prop} (hu : ∀ F : Nat, F < nf → ∀ p, zQ e (G F) p → p.2.1 ≠ 0 → 0 ≤ p.1 ∧ p.1.toNat = rf (bt p) ∧ bt p < nr) (hr : ∀ r : Nat, r < nr → rf r < nf) (hf : ∀ F : Nat, F < nf → ∀ p, zQ e (G F) p → 0 ≤ p.1 → p.1.toNat < nf)
    (cL : zl_c e bt nf G L) (lL : ∀ S, zl_c e bt nf G S → ∀ F : Nat, F < nf → ∀ b, L F b → S F b) (cB : zb_c e bt nf G B) (lB : ∀ S, zb_c e bt nf G S → ∀ F : Nat, F < nf → ∀ b, B F b → S F b) : ∀ r : Nat, r < nr → ∀ b, (B (rf r) b ↔ wa (fun r q => L (rf r) q) nr r b) := by
  have bL : ∀ F : Nat, F < nf → ∀ b, L F b → b < nr := lL (fun _ b => b < nr) (fun F hF p hp => ⟨fun hn => (hu F hF p hp hn).2.2, fun _ _ b hb => hb⟩)
  intro r hr' b
  constructor
  · intro hB
    have k := lB (fun F b => L F b ∨ ∃ q, q < nr ∧ L F q ∧ wa (fun r q => L (rf r) q) nr q b) (fun F hF p hp => ⟨fun hn => Or.inl ((cL F hF p hp).1 hn), fun h0 b hb => ?_⟩) (rf r) (hr r hr') b hB
    · rcases k with k | ⟨q, hq, k1, k2⟩
      · exact wa_E (E := fun r q => L (rf r) q) k nr
      · exact wa_tr nr q hq r b (wa_E (E := fun r q => L (rf r) q) k1 nr) k2
    · by_cases c : p.2.1 = 0
      · have m := (cL F hF p hp).2 c h0
        rcases hb with hb | ⟨q, hq, k1, k2⟩
        · exact Or.inl (m b hb)
        · exact Or.inr ⟨q, hq, m q k1, k2⟩
      · obtain ⟨-, e1, e2⟩ := hu F hF p hp c
        have m := (cL F hF p hp).1 c
        have hb : L p.1.toNat b ∨ ∃ q, q < nr ∧ L p.1.toNat q ∧ wa (fun r q => L (rf r) q) nr q b := hb
        rw [e1] at hb
        refine Or.inr ⟨bt p, e2, m, ?_⟩
        rcases hb with hb | ⟨q, hq, k1, k2⟩
        · exact wa_E (E := fun r q => L (rf r) q) hb nr
        · exact wa_tr nr q hq (bt p) b (wa_E (E := fun r q => L (rf r) q) k1 nr) k2
  · intro hW
    have k := lL (fun F q => B F q ∧ ∀ b, B (rf q) b → B F b) (fun F hF p hp => ⟨fun hn => ⟨(cB F hF p hp).1 hn, fun b hb => ?_⟩, fun _ h0 b hb => ⟨(cB F hF p hp).2 h0 b hb.1, fun b' hb' => (cB F hF p hp).2 h0 b' (hb.2 b' hb')⟩⟩)
    · have := wa_least (E := fun r q => L (rf r) q) (T := fun r q => r < nr → B (rf r) q ∧ (∀ b, B (rf q) b → B (rf r) b) ∧ q < nr) (fun r q h hr'' => ⟨(k (rf r) (hr r hr'') q h).1, (k (rf r) (hr r hr'') q h).2, bL (rf r) (hr r hr'') q h⟩) (fun r q b h1 h2 hr'' => ⟨(h1 hr'').2.1 b (h2 (h1 hr'').2.2).1, fun b' hb' => (h1 hr'').2.1 b' ((h2 (h1 hr'').2.2).2.1 b' hb'), (h2 (h1 hr'').2.2).2.2⟩) nr r b hW hr'
      exact this.1
    · obtain ⟨e0, e1, -⟩ := hu F hF p hp hn
      rw [← e1] at hb
      exact (cB F hF p hp).2 e0 b hb
