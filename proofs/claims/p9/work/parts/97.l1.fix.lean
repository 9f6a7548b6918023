/-! sets purely: turns, and where they end -/
abbrev sg_G : Type := Nat → List (List sp_P)
def sg_OK (n : Nat) (G : sg_G) : Prop := ∀ F : Nat, F < n → ∀ us ∈ G F, sg_ok n us ∧ sg_us us
/-- one form anew -/
def su (G : sg_G) (F : Nat) (X : sp_X) : sp_X := (fun i => if i = F then sf_v X (G F) else X.1 i, fun i => if i = F then sf_s X (G F) else X.2.1 i, fun i => if i = F then sf_h X (G F) else X.2.2 i)
/-- the forms below m anew, the last first -/
def sps (G : sg_G) : Nat → sp_X → sp_X
  | 0, X => X
  | m + 1, X => sps G m (su G m X)
/-- all forms at once -/
def sr (G : sg_G) (X : sp_X) : sp_X := (fun F => sf_v X (G F), fun F => sf_s X (G F), fun F => sf_h X (G F))
def sp_eq (n : Nat) (X Y : sp_X) : Prop := ∀ F : Nat, F < n → X.1 F = Y.1 F ∧ X.2.1 F = Y.2.1 F ∧ X.2.2 F = Y.2.2 F
def sp_01 (n : Nat) (X : sp_X) : Prop := ∀ F : Nat, F < n → X.1 F = 0 ∨ X.1 F = 1
def sp_fix (n : Nat) (G : sg_G) (X : sp_X) : Prop := ∀ F : Nat, F < n → sf_v X (G F) = X.1 F ∧ sf_s X (G F) = X.2.1 F ∧ sf_h X (G F) = X.2.2 F
/-- turns only add -/
def sp_up (n : Nat) (G : sg_G) (X : sp_X) : Prop := ∀ F : Nat, F < n → (X.1 F ≠ 0 → sf_v X (G F) ≠ 0) ∧ (∀ b, tb (X.2.1 F) b = true → tb (sf_s X (G F)) b = true) ∧ sf_h X (G F) ≤ X.2.2 F
section SFX
variable {n : Nat} {G : sg_G} {X Y Z : sp_X}
theorem sp_eq.le (h : sp_eq n X Y) : sp_le n X Y := fun F hF => by
  obtain ⟨a, b, c⟩ := h F hF
  rw [a, b, c]
  exact ⟨id, fun _ => id, Int.le_refl _⟩
theorem sp_eq.symm (h : sp_eq n X Y) : sp_eq n Y X := fun F hF => ⟨(h F hF).1.symm, (h F hF).2.1.symm, (h F hF).2.2.symm⟩
theorem sp_eq.trans (h : sp_eq n X Y) (h' : sp_eq n Y Z) : sp_eq n X Z := fun F hF => ⟨(h F hF).1.trans (h' F hF).1, (h F hF).2.1.trans (h' F hF).2.1, (h F hF).2.2.trans (h' F hF).2.2⟩
theorem sp_eq.refl : sp_eq n X X := fun _ _ => ⟨rfl, rfl, rfl⟩
theorem sp_anti (x : sp_01 n X) (y : sp_01 n Y) (h : sp_le n X Y) (h' : sp_le n Y X) : sp_eq n X Y := fun F hF => by
  obtain ⟨a1, a2, a3⟩ := h F hF
  obtain ⟨b1, b2, b3⟩ := h' F hF
  refine ⟨?_, ?_, by omega⟩
  · rcases x F hF with e | e <;> rcases y F hF with e' | e' <;> omega
  · refine tb_ext (fun b => ?_)
    have c1 := a2 b
    have c2 := b2 b
    cases k1 : tb (X.2.1 F) b <;> cases k2 : tb (Y.2.1 F) b
    · rfl
    · rw [k1, k2] at c2; exact absurd (c2 rfl) (by decide)
    · rw [k1, k2] at c1; exact absurd (c1 rfl) (by decide)
    · rfl
theorem sp_eq.v (h : sp_eq n X Y) : sE_v n X Y := fun F hF => by rw [(h F hF).1]
theorem sp_eq.s (h : sp_eq n X Y) (b : Nat) : sE_s n b X Y := ⟨h.v, fun F hF => by rw [(h F hF).2.1]⟩
theorem sp_eq.h (h : sp_eq n X Y) (s : Int) : sE_h n s X Y := fun F hF => by rw [(h F hF).2.2]
theorem sp_eq.fs (h : sp_eq n X Y) {as : List (List sp_P)} (ho : ∀ us ∈ as, sg_ok n us ∧ sg_us us) : sf_v X as = sf_v Y as ∧ sf_s X as = sf_s Y as ∧ sf_h X as = sf_h Y as := by
  refine ⟨sE_fv h.v as (fun us hu => (ho us hu).1), tb_ext (fun b => sE_fs (h.s b) as (fun us hu => (ho us hu).1)), ?_⟩
  have k := sE_fh (h.h 1001) as ho
  have k1 := sf_h_1000 X as
  have k2 := sf_h_1000 Y as
  omega
theorem su_01 {F : Nat} (h : sp_01 n X) : sp_01 n (su G F X) := fun i hi => by
  show (if i = F then sf_v X (G F) else X.1 i) = 0 ∨ (if i = F then sf_v X (G F) else X.1 i) = 1
  split
  · exact sf_v_01 X _
  · exact h i hi
theorem sr_01 : sp_01 n (sr G X) := fun i _ => sf_v_01 X _
theorem sr_up (hG : sg_OK n G) (h : sp_up n G X) : sp_le n X (sr G X) ∧ sp_up n G (sr G X) := by
  have l : sp_le n X (sr G X) := fun F hF => h F hF
  refine ⟨l, fun F hF => ?_⟩
  have ho := fun us hu => (hG F hF us hu).1
  exact ⟨sm_fv l _ ho, fun b => sm_fs l _ ho, sm_fh l _ ho⟩
theorem su_le {F : Nat} (h : sp_up n G X) : sp_le n X (su G F X) := fun i hi => by
  show (X.1 i ≠ 0 → (if i = F then sf_v X (G F) else X.1 i) ≠ 0) ∧ (∀ b, tb (X.2.1 i) b = true → tb (if i = F then sf_s X (G F) else X.2.1 i) b = true) ∧ (if i = F then sf_h X (G F) else X.2.2 i) ≤ X.2.2 i
  by_cases c : i = F
  · rw [if_pos c, if_pos c, if_pos c, ← c]
    exact h i hi
  · rw [if_neg c, if_neg c, if_neg c]
    exact ⟨id, fun _ => id, Int.le_refl _⟩
theorem su_up {F : Nat} (hG : sg_OK n G) (hF : F < n) (h : sp_up n G X) : sp_up n G (su G F X) := fun i hi => by
  have l := su_le (F := F) h
  have ho := fun us hu => (hG i hi us hu).1
  have m1 := sm_fv l _ ho
  have m2 := fun b => sm_fs (b := b) l _ ho
  have m3 := sm_fh l _ ho
  show ((if i = F then sf_v X (G F) else X.1 i) ≠ 0 → _) ∧ (∀ b, tb (if i = F then sf_s X (G F) else X.2.1 i) b = true → _) ∧ _ ≤ (if i = F then sf_h X (G F) else X.2.2 i)
  by_cases c : i = F
  · rw [if_pos c, if_pos c, if_pos c, ← c]
    rw [← c] at m1 m2 m3
    exact ⟨m1, m2, m3⟩
  · rw [if_neg c, if_neg c, if_neg c]
    obtain ⟨u1, u2, u3⟩ := h i hi
    exact ⟨fun q => m1 (u1 q), fun b q => m2 b (u2 b q), Int.le_trans m3 u3⟩
theorem sps_up (hG : sg_OK n G) : ∀ (m : Nat) (X : sp_X), m ≤ n → sp_up n G X → sp_le n X (sps G m X) ∧ sp_up n G (sps G m X) := by
  intro m
  induction m with
  | zero => intro X _ h; exact ⟨sp_le_refl, h⟩
  | succ m ih =>
    intro X hm h
    obtain ⟨a, b⟩ := ih (su G m X) (by omega) (su_up hG (by omega) h)
    exact ⟨sp_le_tr (su_le h) a, b⟩
theorem sps_01 : ∀ (m : Nat) (X : sp_X), sp_01 n X → sp_01 n (sps G m X) := by
  intro m
  induction m with
  | zero => intro X h; exact h
  | succ m ih => intro X h; exact ih _ (su_01 h)
/- the same of it -/
theorem su_v {F : Nat} (hG : sg_OK n G) (hF : F < n) (h : sE_v n X Y) : sE_v n (su G F X) (su G F Y) := fun i hi => by
  show (if i = F then sf_v X (G F) else X.1 i) ≠ 0 ↔ (if i = F then sf_v Y (G F) else Y.1 i) ≠ 0
  by_cases c : i = F
  · rw [if_pos c, if_pos c, sE_fv h _ (fun us hu => (hG F hF us hu).1)]
  · rw [if_neg c, if_neg c]
    exact h i hi
theorem su_s {b F : Nat} (hG : sg_OK n G) (hF : F < n) (h : sE_s n b X Y) : sE_s n b (su G F X) (su G F Y) := ⟨su_v hG hF h.1, fun i hi => by
  show tb (if i = F then sf_s X (G F) else X.2.1 i) b = tb (if i = F then sf_s Y (G F) else Y.2.1 i) b
  by_cases c : i = F
  · rw [if_pos c, if_pos c]; exact sE_fs h _ (fun us hu => (hG F hF us hu).1)
  · rw [if_neg c, if_neg c]
    exact h.2 i hi⟩
theorem su_h {s : Int} {F : Nat} (hG : sg_OK n G) (hF : F < n) (h : sE_h n s X Y) : sE_h n s (su G F X) (su G F Y) := fun i hi => by
  show min (if i = F then sf_h X (G F) else X.2.2 i) s = min (if i = F then sf_h Y (G F) else Y.2.2 i) s
  by_cases c : i = F
  · rw [if_pos c, if_pos c]; exact sE_fh h _ (fun us hu => hG F hF us hu)
  · rw [if_neg c, if_neg c]
    exact h i hi
theorem sps_c (hG : sg_OK n G) : ∀ (m : Nat) (X Y : sp_X), m ≤ n → (sE_v n X Y → sE_v n (sps G m X) (sps G m Y)) ∧ (∀ b, sE_s n b X Y → sE_s n b (sps G m X) (sps G m Y)) ∧ ∀ s, sE_h n s X Y → sE_h n s (sps G m X) (sps G m Y) := by
  intro m
  induction m with
  | zero => intro X Y _; exact ⟨id, fun _ => id, fun _ => id⟩
  | succ m ih =>
    intro X Y hm
    obtain ⟨a, b, c⟩ := ih (su G m X) (su G m Y) (by omega)
    exact ⟨fun h => a (su_v hG (by omega) h), fun k h => b k (su_s hG (by omega) h), fun s h => c s (su_h hG (by omega) h)⟩
theorem sr_c (hG : sg_OK n G) : (sE_v n X Y → sE_v n (sr G X) (sr G Y)) ∧ (∀ b, sE_s n b X Y → sE_s n b (sr G X) (sr G Y)) ∧ ∀ s, sE_h n s X Y → sE_h n s (sr G X) (sr G Y) := by
  have v : sE_v n X Y → sE_v n (sr G X) (sr G Y) := fun h F hF => by
    show sf_v X (G F) ≠ 0 ↔ sf_v Y (G F) ≠ 0
    rw [sE_fv h _ (fun us hu => (hG F hF us hu).1)]
  exact ⟨v, fun b h => ⟨v h.1, fun F hF => sE_fs h _ (fun us hu => (hG F hF us hu).1)⟩, fun s h F hF => sE_fh h _ (fun us hu => hG F hF us hu)⟩
end SFX
/-- after 2 n turns nothing changes any more -/
theorem sp_conv {n : Nat} {A : Nat → sp_X} (inc : ∀ k, sp_le n (A k) (A (k + 1))) (h01 : ∀ k, sp_01 n (A k)) (cv : ∀ k, sE_v n (A (k + 1)) (A k) → sE_v n (A (k + 2)) (A (k + 1))) (cs : ∀ k b, sE_s n b (A (k + 1)) (A k) → sE_s n b (A (k + 2)) (A (k + 1))) (ch : ∀ k s, sE_h n s (A (k + 1)) (A k) → sE_h n s (A (k + 2)) (A (k + 1))) {k : Nat} (hk : 2 * n ≤ k) : sp_eq n (A (k + 1)) (A k) := by
  have V : ∀ k, n ≤ k → sE_v n (A (k + 1)) (A k) := by
    intro k hk F hF
    have e := ch_stop (n := n) (k0 := 0) (A := fun k F => if (A k).1 F ≠ 0 then 0 else 1) (fun k F hF => by
      have := (inc k F hF).1
      show (if (A (k + 1)).1 F ≠ 0 then (0 : Int) else 1) ≤ if (A k).1 F ≠ 0 then 0 else 1
      by_cases c : (A k).1 F ≠ 0
      · rw [if_pos c, if_pos (this c)]; decide
      · rw [if_neg c]; split <;> decide) (fun k s _ h F hF => by
      have hv : ∀ F, F < n → min (if (A (k + 1)).1 F ≠ 0 then (0 : Int) else 1) s = min (if (A k).1 F ≠ 0 then 0 else 1) s := h
      show min (if (A (k + 2)).1 F ≠ 0 then (0 : Int) else 1) s = min (if (A (k + 1)).1 F ≠ 0 then 0 else 1) s
      by_cases c : s ≤ 0
      · split <;> split <;> omega
      · have := cv k (fun F' hF' => by
          have q := hv F' hF'
          by_cases c1 : (A (k + 1)).1 F' ≠ 0 <;> by_cases c2 : (A k).1 F' ≠ 0
          · exact ⟨fun _ => c2, fun _ => c1⟩
          · rw [if_pos c1, if_neg c2] at q; exfalso; omega
          · rw [if_neg c1, if_pos c2] at q; exfalso; omega
          · exact ⟨fun x => absurd x c1, fun x => absurd x c2⟩) F hF
        by_cases c1 : (A (k + 2)).1 F ≠ 0
        · rw [if_pos c1, if_pos (this.mp c1)]
        · rw [if_neg c1, if_neg (fun x => c1 (this.mpr x))]) (k := k) (F := F) (by omega) hF
    have e : (if (A (k + 1)).1 F ≠ 0 then (0 : Int) else 1) = if (A k).1 F ≠ 0 then 0 else 1 := e
    by_cases c1 : (A (k + 1)).1 F ≠ 0 <;> by_cases c2 : (A k).1 F ≠ 0
    · exact ⟨fun _ => c2, fun _ => c1⟩
    · rw [if_pos c1, if_neg c2] at e; exact absurd e (by decide)
    · rw [if_neg c1, if_pos c2] at e; exact absurd e (by decide)
    · exact ⟨fun x => absurd x c1, fun x => absurd x c2⟩
  have S : ∀ b F, F < n → tb ((A (k + 1)).2.1 F) b = tb ((A k).2.1 F) b := by
    intro b F hF
    have e := ch_stop (n := n) (k0 := n) (A := fun k F => if tb ((A k).2.1 F) b = true then 0 else 1) (fun k F hF => by
      have := (inc k F hF).2.1 b
      show (if tb ((A (k + 1)).2.1 F) b = true then (0 : Int) else 1) ≤ if tb ((A k).2.1 F) b = true then 0 else 1
      by_cases c : tb ((A k).2.1 F) b = true
      · rw [if_pos c, if_pos (this c)]; decide
      · rw [if_neg c]; split <;> decide) (fun k s hk h F hF => by
      have hv : ∀ F, F < n → min (if tb ((A (k + 1)).2.1 F) b = true then (0 : Int) else 1) s = min (if tb ((A k).2.1 F) b = true then 0 else 1) s := h
      show min (if tb ((A (k + 2)).2.1 F) b = true then (0 : Int) else 1) s = min (if tb ((A (k + 1)).2.1 F) b = true then 0 else 1) s
      by_cases c : s ≤ 0
      · split <;> split <;> omega
      · have := (cs k b ⟨V k hk, fun F' hF' => by
          have q := hv F' hF'
          cases c1 : tb ((A (k + 1)).2.1 F') b <;> cases c2 : tb ((A k).2.1 F') b
          · rfl
          · rw [c1, c2] at q; simp at q; exfalso; omega
          · rw [c1, c2] at q; simp at q; exfalso; omega
          · rfl⟩).2 F hF
        rw [this]) (k := k) (F := F) (by omega) hF
    have e : (if tb ((A (k + 1)).2.1 F) b = true then (0 : Int) else 1) = if tb ((A k).2.1 F) b = true then 0 else 1 := e
    cases c1 : tb ((A (k + 1)).2.1 F) b <;> cases c2 : tb ((A k).2.1 F) b
    · rfl
    · rw [c1, c2] at e; exact absurd e (by decide)
    · rw [c1, c2] at e; exact absurd e (by decide)
    · rfl
  have H : ∀ F, F < n → (A (k + 1)).2.2 F = (A k).2.2 F := fun F hF => ch_stop (n := n) (k0 := 0) (A := fun k F => (A k).2.2 F) (fun k F hF => (inc k F hF).2.2) (fun k s _ h => ch k s h) (k := k) (F := F) (by omega) hF
  intro F hF
  refine ⟨?_, tb_ext (fun b => S b F hF), H F hF⟩
  have v := V k (by omega) F hF
  rcases h01 (k + 1) F hF with e | e <;> rcases h01 k F hF with e' | e'
  · rw [e, e']
  · rw [e, e'] at v; exact absurd (v.mpr (by decide)) (by decide)
  · rw [e, e'] at v; exact absurd (v.mp (by decide)) (by decide)
  · rw [e, e']
section SFY
variable {n : Nat} {G : sg_G} {X Y Z : sp_X}
/-- a turn that changes nothing ends at a solution -/
theorem sr_fix (h : sp_eq n (sr G X) X) : sp_fix n G X := fun F hF => h F hF
theorem sps_fix (hG : sg_OK n G) : ∀ (m : Nat) (X : sp_X), m ≤ n → sp_01 n X → sp_up n G X → sp_eq n (sps G m X) X → ∀ F : Nat, F < m → sf_v X (G F) = X.1 F ∧ sf_s X (G F) = X.2.1 F ∧ sf_h X (G F) = X.2.2 F := by
  intro m
  induction m with
  | zero => intro X _ _ _ _ F hF; omega
  | succ m ih =>
    intro X hm h01 hu he F hF
    have u1 := su_up (F := m) hG (by omega) hu
    have l1 := (sps_up hG m (su G m X) (by omega) u1).1
    have l2 : sp_le n (su G m X) X := sp_le_tr l1 he.le
    have e1 : sp_eq n (su G m X) X := sp_anti (su_01 h01) h01 l2 (su_le hu)
    by_cases c : F = m
    · have := e1 F (by omega)
      have : (if F = m then sf_v X (G m) else X.1 F) = X.1 F ∧ (if F = m then sf_s X (G m) else X.2.1 F) = X.2.1 F ∧ (if F = m then sf_h X (G m) else X.2.2 F) = X.2.2 F := this
      rw [if_pos c, if_pos c, if_pos c, ← c] at this
      exact this
    · have e2 : sp_eq n (sps G m (su G m X)) (su G m X) := sp_eq.trans he e1.symm
      obtain ⟨a1, a2, a3⟩ := ih (su G m X) (by omega) (su_01 h01) u1 e2 F (by omega)
      obtain ⟨b1, b2, b3⟩ := e1.fs (hG F (by omega))
      obtain ⟨c1, c2, c3⟩ := e1 F (by omega)
      exact ⟨by rw [← b1, a1, c1], by rw [← b2, a2, c2], by rw [← b3, a3, c3]⟩
/-- all stays below every solution -/
theorem sr_least (hG : sg_OK n G) (hY : sp_fix n G Y) (h : sp_le n X Y) : sp_le n (sr G X) Y := fun F hF => by
  have ho := fun us hu => (hG F hF us hu).1
  have m1 := sm_fv h _ ho
  have m2 := fun b => sm_fs (b := b) h _ ho
  have m3 := sm_fh h _ ho
  obtain ⟨y1, y2, y3⟩ := hY F hF
  rw [y1] at m1
  rw [y2] at m2
  rw [y3] at m3
  exact ⟨m1, m2, m3⟩
theorem su_least {F : Nat} (hG : sg_OK n G) (hF : F < n) (hY : sp_fix n G Y) (h : sp_le n X Y) : sp_le n (su G F X) Y := fun i hi => by
  show ((if i = F then sf_v X (G F) else X.1 i) ≠ 0 → _) ∧ (∀ b, tb (if i = F then sf_s X (G F) else X.2.1 i) b = true → _) ∧ _ ≤ (if i = F then sf_h X (G F) else X.2.2 i)
  by_cases c : i = F
  · rw [if_pos c, if_pos c, if_pos c, c]
    exact sr_least hG hY h F hF
  · rw [if_neg c, if_neg c, if_neg c]
    exact h i hi
theorem sps_least (hG : sg_OK n G) (hY : sp_fix n G Y) : ∀ (m : Nat) (X : sp_X), m ≤ n → sp_le n X Y → sp_le n (sps G m X) Y := by
  intro m
  induction m with
  | zero => intro X _ h; exact h
  | succ m ih => intro X hm h; exact ih _ (by omega) (su_least hG (by omega) hY h)
end SFY
/-- at the begin -/
def sp_bot : sp_X := (fun _ => 0, fun _ => 0, fun _ => 1000)
theorem sp_bot_01 {n : Nat} : sp_01 n sp_bot := fun _ _ => Or.inl rfl
theorem sp_bot_up {n : Nat} {G : sg_G} : sp_up n G sp_bot := fun F _ => ⟨fun q => absurd rfl q, fun b q => by have e : tb 0 b = true := q; rw [tb_0] at e; exact absurd e (by decide), sf_h_1000 _ _⟩
theorem sp_bot_le {n : Nat} {Y : sp_X} (h : ∀ F, F < n → Y.2.2 F ≤ 1000) : sp_le n sp_bot Y := fun F hF => ⟨fun q => absurd rfl q, fun b q => by have e : tb 0 b = true := q; rw [tb_0] at e; exact absurd e (by decide), h F hF⟩
theorem sp_fix_le {n : Nat} {G : sg_G} {Y : sp_X} (h : sp_fix n G Y) : sp_le n sp_bot Y := sp_bot_le (fun F hF => by rw [← (h F hF).2.2]; exact sf_h_1000 _ _)
def sr_k (G : sg_G) : Nat → sp_X
  | 0 => sp_bot
  | k + 1 => sr G (sr_k G k)
def sps_k (G : sg_G) (n : Nat) : Nat → sp_X
  | 0 => sp_bot
  | k + 1 => sps G n (sps_k G n k)
section SFZ
variable {n : Nat} {G : sg_G} {Y : sp_X}
theorem sr_k_01 : ∀ k, sp_01 n (sr_k G k) := fun k => by cases k with | zero => exact sp_bot_01 | succ k => exact sr_01
theorem sr_k_up (hG : sg_OK n G) : ∀ k, sp_up n G (sr_k G k) := by
  intro k
  induction k with
  | zero => exact sp_bot_up
  | succ k ih => exact (sr_up hG ih).2
theorem sr_k_least (hG : sg_OK n G) (hY : sp_fix n G Y) : ∀ k, sp_le n (sr_k G k) Y := by
  intro k
  induction k with
  | zero => exact sp_fix_le hY
  | succ k ih => exact sr_least hG hY ih
theorem sr_k_stop (hG : sg_OK n G) {k : Nat} (hk : 2 * n ≤ k) : sp_eq n (sr_k G (k + 1)) (sr_k G k) := sp_conv (A := sr_k G) (fun k => (sr_up hG (sr_k_up hG k)).1) sr_k_01 (fun k => (sr_c hG).1) (fun k b => (sr_c hG).2.1 b) (fun k s => (sr_c hG).2.2 s) hk
theorem sps_k_01 : ∀ k, sp_01 n (sps_k G n k) := by
  intro k
  induction k with
  | zero => exact sp_bot_01
  | succ k ih => exact sps_01 _ _ ih
theorem sps_k_up (hG : sg_OK n G) : ∀ k, sp_up n G (sps_k G n k) := by
  intro k
  induction k with
  | zero => exact sp_bot_up
  | succ k ih => exact (sps_up hG n _ (Nat.le_refl _) ih).2
theorem sps_k_least (hG : sg_OK n G) (hY : sp_fix n G Y) : ∀ k, sp_le n (sps_k G n k) Y := by
  intro k
  induction k with
  | zero => exact sp_fix_le hY
  | succ k ih => exact sps_least hG hY n _ (Nat.le_refl _) ih
theorem sps_k_stop (hG : sg_OK n G) {k : Nat} (hk : 2 * n ≤ k) : sp_eq n (sps_k G n (k + 1)) (sps_k G n k) := sp_conv (A := sps_k G n) (fun k => (sps_up hG n _ (Nat.le_refl _) (sps_k_up hG k)).1) sps_k_01 (fun k => (sps_c hG n _ _ (Nat.le_refl _)).1) (fun k b => (sps_c hG n _ _ (Nat.le_refl _)).2.1 b) (fun k s => (sps_c hG n _ _ (Nat.le_refl _)).2.2 s) hk
end SFZ
