/-! sets purely: void, starts, height of forms; a form is a list of alternatives, an alternative a list of parts -/
/-- a part: its form or -1, 1 if it is a use, how it is repeated, and where it has no form whether it is void, its starts -/
abbrev sp_P : Type := Int × Int × Int × Int × Int64
abbrev sp_X : Type := (Nat → Int) × (Nat → Int64) × (Nat → Int)
def sp_v (X : sp_X) (p : sp_P) : Int := if 0 ≤ p.1 then X.1 p.1.toNat else p.2.2.2.1
def sp_s (X : sp_X) (p : sp_P) : Int64 := if 0 ≤ p.1 then X.2.1 p.1.toNat else p.2.2.2.2
def sp_h (X : sp_X) (p : sp_P) : Int := if p.2.2.1 ≠ 0 then 0 else if 0 ≤ p.1 then X.2.2 p.1.toNat + p.2.1 else 0
abbrev sp_e (X : sp_X) (p : sp_P) : Prop := p.2.2.1 ≠ 0 ∨ sp_v X p ≠ 0
def sa_v (X : sp_X) : List sp_P → Int
  | [] => 1
  | p :: r => if sp_e X p then sa_v X r else 0
def sa_s (X : sp_X) : List sp_P → Int64
  | [] => 0
  | p :: r => if sp_e X p then sp_s X p ||| sa_s X r else sp_s X p
def sa_h (X : sp_X) : List sp_P → Int
  | [] => 0
  | p :: r => max (sp_h X p) (sa_h X r)
def sf_v (X : sp_X) : List (List sp_P) → Int
  | [] => 0
  | a :: r => if sa_v X a ≠ 0 then 1 else sf_v X r
def sf_s (X : sp_X) : List (List sp_P) → Int64
  | [] => 0
  | a :: r => sa_s X a ||| sf_s X r
def sf_h (X : sp_X) : List (List sp_P) → Int
  | [] => 1000
  | a :: r => min (min 1000 (sa_h X a)) (sf_h X r)
/-- a bit -/
def tb (x : Int64) (b : Nat) : Bool := x.toBitVec.getLsbD b
theorem tb_or (x y : Int64) (b : Nat) : tb (x ||| y) b = (tb x b || tb y b) := by
  unfold tb
  rw [Int64.toBitVec_or, BitVec.getLsbD_or]
theorem tb_0 (b : Nat) : tb 0 b = false := by
  unfold tb
  rw [show (0 : Int64).toBitVec = 0#64 from rfl]
  exact BitVec.getLsbD_zero
theorem tb_ext {x y : Int64} (h : ∀ b, tb x b = tb y b) : x = y := by
  have e : x.toBitVec = y.toBitVec := BitVec.eq_of_getLsbD_eq (fun b _ => h b)
  exact Int64.toBitVec_inj.mp e
/-- all forms named are there -/
def sg_ok (n : Nat) (us : List sp_P) : Prop := ∀ p ∈ us, p.1 < n
section SPP
variable {n : Nat} {X Y : sp_X}
/- void -/
def sE_v (n : Nat) (X Y : sp_X) : Prop := ∀ F : Nat, F < n → (X.1 F ≠ 0 ↔ Y.1 F ≠ 0)
theorem sE_e {p : sp_P} (h : sE_v n X Y) (hp : p.1 < n) : sp_e X p ↔ sp_e Y p := by
  unfold sp_e sp_v
  by_cases c : 0 ≤ p.1
  · rw [if_pos c, if_pos c, h _ (by omega)]
  · rw [if_neg c, if_neg c]
theorem sE_av (h : sE_v n X Y) : ∀ us, sg_ok n us → sa_v X us = sa_v Y us := by
  intro us
  induction us with
  | nil => intro _; rfl
  | cons p r ih =>
    intro ho
    have e := sE_e h (ho p (List.mem_cons_self))
    have i := ih (fun q hq => ho q (List.mem_cons_of_mem _ hq))
    unfold sa_v
    by_cases c : sp_e X p
    · rw [if_pos c, if_pos (e.mp c), i]
    · rw [if_neg c, if_neg (fun q => c (e.mpr q))]
theorem sE_fv (h : sE_v n X Y) : ∀ as, (∀ us ∈ as, sg_ok n us) → sf_v X as = sf_v Y as := by
  intro as
  induction as with
  | nil => intro _; rfl
  | cons a r ih =>
    intro ho
    have e := sE_av h a (ho a (List.mem_cons_self))
    have i := ih (fun q hq => ho q (List.mem_cons_of_mem _ hq))
    unfold sf_v
    rw [e, i]
/- a bit of the starts -/
def sE_s (n b : Nat) (X Y : sp_X) : Prop := sE_v n X Y ∧ ∀ F : Nat, F < n → tb (X.2.1 F) b = tb (Y.2.1 F) b
theorem sE_ps {b : Nat} {p : sp_P} (h : sE_s n b X Y) (hp : p.1 < n) : tb (sp_s X p) b = tb (sp_s Y p) b := by
  unfold sp_s
  by_cases c : 0 ≤ p.1
  · rw [if_pos c, if_pos c]; exact h.2 _ (by omega)
  · rw [if_neg c, if_neg c]
theorem sE_as {b : Nat} (h : sE_s n b X Y) : ∀ us, sg_ok n us → tb (sa_s X us) b = tb (sa_s Y us) b := by
  intro us
  induction us with
  | nil => intro _; rfl
  | cons p r ih =>
    intro ho
    have e := sE_e h.1 (ho p (List.mem_cons_self))
    have e2 := sE_ps h (ho p (List.mem_cons_self))
    have i := ih (fun q hq => ho q (List.mem_cons_of_mem _ hq))
    unfold sa_s
    by_cases c : sp_e X p
    · rw [if_pos c, if_pos (e.mp c), tb_or, tb_or, i, e2]
    · rw [if_neg c, if_neg (fun q => c (e.mpr q)), e2]
theorem sE_fs {b : Nat} (h : sE_s n b X Y) : ∀ as, (∀ us ∈ as, sg_ok n us) → tb (sf_s X as) b = tb (sf_s Y as) b := by
  intro as
  induction as with
  | nil => intro _; rfl
  | cons a r ih =>
    intro ho
    have e := sE_as h a (ho a (List.mem_cons_self))
    have i := ih (fun q hq => ho q (List.mem_cons_of_mem _ hq))
    unfold sf_s
    rw [tb_or, tb_or, e, i]
/- heights below s -/
def sE_h (n : Nat) (s : Int) (X Y : sp_X) : Prop := ∀ F : Nat, F < n → min (X.2.2 F) s = min (Y.2.2 F) s
def sg_us (us : List sp_P) : Prop := ∀ p ∈ us, 0 ≤ p.2.1
theorem sE_ph {s : Int} {p : sp_P} (h : sE_h n s X Y) (hp : p.1 < n) (hu : 0 ≤ p.2.1) : min (sp_h X p) s = min (sp_h Y p) s := by
  unfold sp_h
  by_cases c1 : p.2.2.1 ≠ 0
  · rw [if_pos c1, if_pos c1]
  · rw [if_neg c1, if_neg c1]
    by_cases c : 0 ≤ p.1
    · rw [if_pos c, if_pos c]
      have := h p.1.toNat (by omega)
      omega
    · rw [if_neg c, if_neg c]
theorem sE_ah {s : Int} (h : sE_h n s X Y) : ∀ us, sg_ok n us → sg_us us → min (sa_h X us) s = min (sa_h Y us) s := by
  intro us
  induction us with
  | nil => intro _ _; rfl
  | cons p r ih =>
    intro ho hu
    have e := sE_ph h (ho p (List.mem_cons_self)) (hu p (List.mem_cons_self))
    have i := ih (fun q hq => ho q (List.mem_cons_of_mem _ hq)) (fun q hq => hu q (List.mem_cons_of_mem _ hq))
    unfold sa_h
    omega
theorem sE_fh {s : Int} (h : sE_h n s X Y) : ∀ as, (∀ us ∈ as, sg_ok n us ∧ sg_us us) → min (sf_h X as) s = min (sf_h Y as) s := by
  intro as
  induction as with
  | nil => intro _; rfl
  | cons a r ih =>
    intro ho
    have e := sE_ah h a (ho a (List.mem_cons_self)).1 (ho a (List.mem_cons_self)).2
    have i := ih (fun q hq => ho q (List.mem_cons_of_mem _ hq))
    unfold sf_h
    omega
/- order -/
def sp_le (n : Nat) (X Y : sp_X) : Prop := ∀ F : Nat, F < n → (X.1 F ≠ 0 → Y.1 F ≠ 0) ∧ (∀ b, tb (X.2.1 F) b = true → tb (Y.2.1 F) b = true) ∧ Y.2.2 F ≤ X.2.2 F
theorem sp_le_refl : sp_le n X X := fun _ _ => ⟨id, fun _ => id, Int.le_refl _⟩
theorem sp_le_tr {Z : sp_X} (h : sp_le n X Y) (h' : sp_le n Y Z) : sp_le n X Z := fun F hF => ⟨fun q => (h' F hF).1 ((h F hF).1 q), fun b q => (h' F hF).2.1 b ((h F hF).2.1 b q), Int.le_trans (h' F hF).2.2 (h F hF).2.2⟩
theorem sm_e {p : sp_P} (h : sp_le n X Y) (hp : p.1 < n) (c : sp_e X p) : sp_e Y p := by
  unfold sp_e sp_v at *
  by_cases c0 : 0 ≤ p.1
  · rw [if_pos c0] at *
    rcases c with c | c
    · exact Or.inl c
    · exact Or.inr ((h _ (by omega)).1 c)
  · rw [if_neg c0] at *
    exact c
theorem sa_v_01 (X : sp_X) : ∀ us, sa_v X us = 0 ∨ sa_v X us = 1 := by
  intro us
  induction us with
  | nil => exact Or.inr rfl
  | cons p r ih => 
    unfold sa_v
    split
    · exact ih
    · exact Or.inl rfl
theorem sf_v_01 (X : sp_X) : ∀ as, sf_v X as = 0 ∨ sf_v X as = 1 := by
  intro as
  induction as with
  | nil => exact Or.inl rfl
  | cons p r ih => 
    unfold sf_v
    split
    · exact Or.inr rfl
    · exact ih
theorem sf_h_1000 (X : sp_X) : ∀ as, sf_h X as ≤ 1000 := by
  intro as
  cases as with
  | nil => exact Int.le_refl _
  | cons p r => unfold sf_h; omega
theorem sm_av (h : sp_le n X Y) : ∀ us, sg_ok n us → sa_v X us ≠ 0 → sa_v Y us ≠ 0 := by
  intro us
  induction us with
  | nil => intro _ q; exact q
  | cons p r ih =>
    intro ho
    have i := ih (fun q hq => ho q (List.mem_cons_of_mem _ hq))
    unfold sa_v
    by_cases c : sp_e X p
    · rw [if_pos c, if_pos (sm_e h (ho p (List.mem_cons_self)) c)]
      exact i
    · rw [if_neg c]
      exact fun q => absurd rfl q
theorem sm_fv (h : sp_le n X Y) : ∀ as, (∀ us ∈ as, sg_ok n us) → sf_v X as ≠ 0 → sf_v Y as ≠ 0 := by
  intro as
  induction as with
  | nil => intro _ q; exact q
  | cons a r ih =>
    intro ho
    have e := sm_av h a (ho a (List.mem_cons_self))
    have i := ih (fun q hq => ho q (List.mem_cons_of_mem _ hq))
    unfold sf_v
    by_cases c : sa_v X a ≠ 0
    · rw [if_pos c, if_pos (e c)]
      exact id
    · rw [if_neg c]
      by_cases c2 : sa_v Y a ≠ 0
      · rw [if_pos c2]
        exact fun _ => by decide
      · rw [if_neg c2]
        exact i
theorem sm_ps {b : Nat} {p : sp_P} (h : sp_le n X Y) (hp : p.1 < n) (c : tb (sp_s X p) b = true) : tb (sp_s Y p) b = true := by
  unfold sp_s at *
  by_cases c0 : 0 ≤ p.1
  · rw [if_pos c0] at *; exact (h _ (by omega)).2.1 b c
  · rw [if_neg c0] at *; exact c
theorem sm_as {b : Nat} (h : sp_le n X Y) : ∀ us, sg_ok n us → tb (sa_s X us) b = true → tb (sa_s Y us) b = true := by
  intro us
  induction us with
  | nil => intro _ q; exact q
  | cons p r ih =>
    intro ho
    have hp := ho p (List.mem_cons_self)
    have i := ih (fun q hq => ho q (List.mem_cons_of_mem _ hq))
    unfold sa_s
    by_cases c : sp_e X p
    · rw [if_pos c, if_pos (sm_e h hp c), tb_or, tb_or, Bool.or_eq_true, Bool.or_eq_true]
      rintro (q | q)
      · exact Or.inl (sm_ps h hp q)
      · exact Or.inr (i q)
    · rw [if_neg c]
      intro q
      have := sm_ps h hp q
      split
      · rw [tb_or, this]; rfl
      · exact this
theorem sm_fs {b : Nat} (h : sp_le n X Y) : ∀ as, (∀ us ∈ as, sg_ok n us) → tb (sf_s X as) b = true → tb (sf_s Y as) b = true := by
  intro as
  induction as with
  | nil => intro _ q; exact q
  | cons a r ih =>
    intro ho
    have e := sm_as (b := b) h a (ho a (List.mem_cons_self))
    have i := ih (fun q hq => ho q (List.mem_cons_of_mem _ hq))
    unfold sf_s
    rw [tb_or, tb_or, Bool.or_eq_true, Bool.or_eq_true]
    rintro (q | q)
    · exact Or.inl (e q)
    · exact Or.inr (i q)
theorem sm_ph {p : sp_P} (h : sp_le n X Y) (hp : p.1 < n) : sp_h Y p ≤ sp_h X p := by
  unfold sp_h
  split
  · exact Int.le_refl _
  · split
    · have := (h p.1.toNat (by omega)).2.2
      omega
    · exact Int.le_refl _
theorem sm_ah (h : sp_le n X Y) : ∀ us, sg_ok n us → sa_h Y us ≤ sa_h X us := by
  intro us
  induction us with
  | nil => intro _; exact Int.le_refl _
  | cons p r ih =>
    intro ho
    have e := sm_ph h (ho p (List.mem_cons_self))
    have i := ih (fun q hq => ho q (List.mem_cons_of_mem _ hq))
    unfold sa_h
    omega
theorem sm_fh (h : sp_le n X Y) : ∀ as, (∀ us ∈ as, sg_ok n us) → sf_h Y as ≤ sf_h X as := by
  intro as
  induction as with
  | nil => intro _; exact Int.le_refl _
  | cons a r ih =>
    intro ho
    have e := sm_ah h a (ho a (List.mem_cons_self))
    have i := ih (fun q hq => ho q (List.mem_cons_of_mem _ hq))
    unfold sf_h
    omega
end SPP
/-! chains: after n turns nothing changes any more -/
theorem nd_len : ∀ (n : Nat) (L : List Nat), L.Nodup → (∀ x ∈ L, x < n) → L.length ≤ n := by
  intro n
  induction n with
  | zero =>
    intro L _ h
    cases L with
    | nil => exact Nat.le_refl _
    | cons x r => exact absurd (h x (List.mem_cons_self)) (Nat.not_lt_zero _)
  | succ n ih =>
    intro L hn h
    by_cases c : n ∈ L
    · have k := ih (L.erase n) (hn.erase n) (fun x hx => by
        have x1 := h x (List.mem_of_mem_erase hx)
        have x2 : x ≠ n := fun e => by
          rw [e] at hx
          exact (hn.not_mem_erase) hx
        omega)
      rw [List.length_erase_of_mem c] at k
      omega
    · have k := ih L hn (fun x hx => by
        have x1 := h x hx
        have x2 : x ≠ n := fun e => c (by rw [← e]; exact hx)
        omega)
      omega
theorem ch_chain {n k0 : Nat} {A : Nat → Nat → Int} (dec : ∀ k F, F < n → A (k + 1) F ≤ A k F) (pr : ∀ k s, k0 ≤ k → (∀ F, F < n → min (A (k + 1) F) s = min (A k F) s) → ∀ F, F < n → min (A (k + 2) F) s = min (A (k + 1) F) s) : ∀ (j F : Nat), F < n → A (k0 + j + 1) F < A (k0 + j) F → ∃ L : List Nat, L.Nodup ∧ L.length = j + 1 ∧ ∀ G ∈ L, G < n ∧ A (k0 + j + 1) G ≤ A (k0 + j + 1) F := by
  intro j
  induction j with
  | zero =>
    intro F hF h
    exact ⟨[F], List.nodup_cons.mpr ⟨List.not_mem_nil, List.nodup_nil⟩, rfl, fun G hG => by rw [List.mem_singleton.mp hG]; exact ⟨hF, Int.le_refl _⟩⟩
  | succ j ih =>
    intro F hF h
    obtain ⟨s, hs⟩ : ∃ s, s = A (k0 + (j + 1) + 1) F + 1 := ⟨_, rfl⟩
    have ex : ∃ G, G < n ∧ min (A (k0 + j + 1) G) s ≠ min (A (k0 + j) G) s := by
      refine Classical.byContradiction (fun q => ?_)
      have := pr (k0 + j) s (by omega) (fun G hG => Classical.byContradiction (fun q2 => q ⟨G, hG, q2⟩)) F hF
      have e1 : k0 + j + 2 = k0 + (j + 1) + 1 := by omega
      have e2 : k0 + j + 1 = k0 + (j + 1) := by omega
      rw [e1, e2] at this
      omega
    obtain ⟨G, hG, hne⟩ := ex
    have d := dec (k0 + j) G hG
    obtain ⟨L, l1, l2, l3⟩ := ih G hG (by omega)
    have e2 : k0 + j + 1 = k0 + (j + 1) := by omega
    rw [e2] at l3 d hne
    refine ⟨F :: L, List.nodup_cons.mpr ⟨fun q => ?_, l1⟩, by rw [List.length_cons, l2], fun G' hG' => ?_⟩
    · have := (l3 F q).2
      omega
    · rcases List.mem_cons.mp hG' with rfl | hm
      · exact ⟨hF, Int.le_refl _⟩
      · obtain ⟨m1, m2⟩ := l3 G' hm
        have := dec (k0 + (j + 1)) G' m1
        exact ⟨m1, by omega⟩
theorem ch_stop {n k0 : Nat} {A : Nat → Nat → Int} (dec : ∀ k F, F < n → A (k + 1) F ≤ A k F) (pr : ∀ k s, k0 ≤ k → (∀ F, F < n → min (A (k + 1) F) s = min (A k F) s) → ∀ F, F < n → min (A (k + 2) F) s = min (A (k + 1) F) s) {k F : Nat} (hk : k0 + n ≤ k) (hF : F < n) : A (k + 1) F = A k F := by
  refine Classical.byContradiction (fun q => ?_)
  have d := dec k F hF
  obtain ⟨j, rfl⟩ : ∃ j, k = k0 + j := ⟨k - k0, by omega⟩
  obtain ⟨L, l1, l2, l3⟩ := ch_chain dec pr j F hF (by omega)
  have := nd_len n L l1 (fun x hx => (l3 x hx).1)
  omega
