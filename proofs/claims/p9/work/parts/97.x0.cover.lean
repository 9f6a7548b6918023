/-! READING, purely: every unit stands in a line, every alternative in a form; o: of an alternative its form -/
def lk (g : wk_g) (u : Int) : Prop := (∃ a : Nat, (a : Int) < g 0 1 ∧ g 126 a = u) ∨ ∃ v : Nat, (v : Int) < g 0 0 ∧ (g 125 v = u ∨ g 124 v = u)
/-- not the second of a pair -/
def nm (g : wk_g) (z : Int) : Prop := ∀ v : Nat, (v : Int) < g 0 0 → g 124 v ≠ z
/-- the second of a pair goes on nowhere -/
def pk_m (g : wk_g) : Prop := ∀ v : Nat, (v : Int) < g 0 0 → 0 ≤ g 124 v → g 124 v < g 0 0 ∧ g 125 (g 124 v).toNat < 0
def pk_lev (o : Nat → Nat) (g : wk_g) (i : Nat) : Prop := (0 ≤ g 147 i ∧ g 147 i < g 0 1) ∧ g 149 i < g 0 0 ∧ (g 149 i < 0 → g 126 (g 147 i).toNat < 0) ∧ (0 ≤ g 149 i → g 125 (g 149 i).toNat < 0) ∧ (g 151 i ≠ 0 → 0 ≤ g 149 i ∧ g 124 (g 149 i).toNat < 0) ∧ g 128 (g 147 i).toNat < 0 ∧ o (g 147 i).toNat = (g 146 i).toNat ∧ (0 ≤ g 149 i → nm g (g 149 i))
def pk_a (o : Nat → Nat) (g : wk_g) : Prop :=
  (∀ a : Nat, (a : Int) < g 0 1 → (∃ f : Nat, (f : Int) < g 0 2 ∧ g 129 f = a) ∨ ∃ b : Nat, b < a ∧ g 128 b = a) ∧
  (∀ f : Nat, (f : Int) < g 0 2 → 0 ≤ g 130 f ∧ (g 130 f = 0 → g 129 f < 0) ∧ g 129 f < g 0 1 ∧ (0 ≤ g 129 f → o (g 129 f).toNat = f)) ∧
  (∀ a : Nat, (a : Int) < g 0 1 → g 128 a < g 0 1 ∧ (0 ≤ g 128 a → o (g 128 a).toNat = o a))
def PK (o : Nat → Nat) (g : wk_g) (m x : Int) : Prop :=
  (0 ≤ g 0 0 ∧ 0 ≤ g 0 1 ∧ 0 ≤ g 0 2 ∧ 0 ≤ g 0 5) ∧
  (∀ i : Nat, (i : Int) ≤ m → pk_lev o g i) ∧
  (∀ i : Nat, (i : Int) ≤ g 0 5 → 0 ≤ g 146 i ∧ g 146 i < g 0 2) ∧
  (∀ i : Nat, 1 ≤ i → (i : Int) ≤ g 0 5 → 0 ≤ g 148 i ∧ g 148 i < g 0 0 ∧ g 124 (g 148 i).toNat < 0 ∧ g 125 (g 148 i).toNat < 0 ∧ nm g (g 148 i)) ∧
  (∀ i j : Nat, i < j → (j : Int) ≤ m → g 147 i < g 147 j) ∧
  (∀ i j : Nat, i < j → (j : Int) ≤ g 0 5 → ((i : Int) ≤ m → g 149 i < g 148 j) ∧ (1 ≤ i → g 148 i < g 148 j)) ∧
  (∀ i j : Nat, 1 ≤ i → i ≤ j → (j : Int) ≤ m → 0 ≤ g 149 j → g 148 i < g 149 j) ∧
  (∀ u : Nat, (u : Int) < g 0 0 → (u : Int) = x ∨ lk g u ∨ ∃ i : Nat, 1 ≤ i ∧ (i : Int) ≤ g 0 5 ∧ g 148 i = u) ∧ ((0 ≤ x → nm g x) ∧ pk_m g) ∧ pk_a o g
/-- what of it holds between rules -/
def PKr (o : Nat → Nat) (g : wk_g) : Prop := (0 ≤ g 0 0 ∧ 0 ≤ g 0 1 ∧ 0 ≤ g 0 2) ∧ (∀ u : Nat, (u : Int) < g 0 0 → lk g u) ∧ pk_m g ∧ pk_a o g
section PKS
variable {o : Nat → Nat} {g g' : wk_g} {m x : Int}
theorem lk_cg (e0 : g' 0 0 = g 0 0 ∧ g' 0 1 = g 0 1) (e : g' 124 = g 124 ∧ g' 125 = g 125 ∧ g' 126 = g 126) (u : Int) : lk g' u ↔ lk g u := by
  unfold lk
  rw [e0.1, e0.2, e.1, e.2.1, e.2.2]
theorem pk_a_cg (h : pk_a o g) (e1 : g' 0 1 = g 0 1) (e2 : g' 0 2 = g 0 2) (e : g' 128 = g 128 ∧ g' 129 = g 129 ∧ g' 130 = g 130) : pk_a o g' := by
  unfold pk_a
  rw [e1, e2, e.1, e.2.1, e.2.2]
  exact h
theorem PK_cg (h : PK o g m x) (e0 : g' 0 0 = g 0 0 ∧ g' 0 1 = g 0 1 ∧ g' 0 2 = g 0 2 ∧ g' 0 5 = g 0 5) (e : ∀ r, r ∈ [124, 125, 126, 128, 129, 130, 146, 147, 148, 149, 151] → g' r = g r) : PK o g' m x := by
  obtain ⟨a0, a1, a2, a5⟩ := e0
  have b := fun r hr => e r hr
  unfold PK pk_lev pk_a lk pk_m nm
  rw [a0, a1, a2, a5, b 124 (by decide), b 125 (by decide), b 126 (by decide), b 128 (by decide), b 129 (by decide), b 130 (by decide), b 146 (by decide), b 147 (by decide), b 148 (by decide), b 149 (by decide), b 151 (by decide)]
  exact h
theorem PK_unit {s w p : Int} (h : PK o g m (-1)) : PK o (rf_unit g s w p) m (g 0 0) ∧ (rf_unit g s w p) 124 (g 0 0).toNat < 0 ∧ (rf_unit g s w p) 125 (g 0 0).toNat < 0 := by
  obtain ⟨⟨n0, n1, n2, n5⟩, h1, h2, h3, h4, h5, h6, h7, ⟨-, hm⟩, h8⟩ := h
  have r124 : ∀ i, (rf_unit g s w p) 124 i = if i = (g 0 0).toNat then -1 else g 124 i := fun _ => rfl
  have r125 : ∀ i, (rf_unit g s w p) 125 i = if i = (g 0 0).toNat then -1 else g 125 i := fun _ => rfl
  have k124 : ∀ z : Int, g 124 z.toNat < 0 → (rf_unit g s w p) 124 z.toNat < 0 := fun z q => by rw [r124]; split; decide; exact q
  have k125 : ∀ z : Int, g 125 z.toNat < 0 → (rf_unit g s w p) 125 z.toNat < 0 := fun z q => by rw [r125]; split; decide; exact q
  have knm : ∀ z : Int, 0 ≤ z → nm g z → nm (rf_unit g s w p) z := fun z z0 q v hv => by
    have hv : (v : Int) < g 0 0 + 1 := hv
    rw [r124]
    by_cases c : v = (g 0 0).toNat
    · rw [if_pos c]; omega
    · rw [if_neg c]; exact q v (by omega)
  refine ⟨⟨⟨by show 0 ≤ g 0 0 + 1; omega, n1, n2, n5⟩, fun i hi => ?_, h2, fun i i1 i2 => ?_, h4, h5, h6, fun u hu => ?_, ⟨fun _ v hv => ?_, fun v hv q => ?_⟩, h8⟩, ?_, ?_⟩
  · obtain ⟨l1, l2, l3, l4, l5, l6, l7, l8⟩ := h1 i hi
    exact ⟨l1, by show g 149 i < g 0 0 + 1; omega, l3, fun q => k125 _ (l4 q), fun q => ⟨(l5 q).1, k124 _ (l5 q).2⟩, l6, l7, fun q => knm _ q (l8 q)⟩
  · obtain ⟨l1, l2, l3, l4, l5⟩ := h3 i i1 i2
    exact ⟨l1, by show g 148 i < g 0 0 + 1; omega, k124 _ l3, k125 _ l4, knm _ l1 l5⟩
  · have hu : (u : Int) < g 0 0 + 1 := hu
    by_cases c : (u : Int) = g 0 0
    · exact Or.inl c
    · refine Or.inr ?_
      rcases h7 u (by omega) with q | q | q
      · omega
      · refine Or.inl ?_
        rcases q with ⟨a, a1, a2⟩ | ⟨v, v1, v2⟩
        · exact Or.inl ⟨a, a1, a2⟩
        · refine Or.inr ⟨v, by show (v : Int) < g 0 0 + 1; omega, ?_⟩
          have n : v ≠ (g 0 0).toNat := by omega
          rw [r124, r125, if_neg n, if_neg n]
          exact v2
      · exact Or.inr q
  · have hv : (v : Int) < g 0 0 + 1 := hv
    rw [r124]
    by_cases c : v = (g 0 0).toNat
    · rw [if_pos c]; omega
    · rw [if_neg c]
      by_cases c0 : 0 ≤ g 124 v
      · have := (hm v (by omega) c0).1
        omega
      · omega
  · have hv : (v : Int) < g 0 0 + 1 := hv
    rw [r124] at q ⊢
    by_cases c : v = (g 0 0).toNat
    · rw [if_pos c] at q; exact absurd q (by decide)
    · rw [if_neg c] at q ⊢
      have := hm v (by omega) q
      exact ⟨by show g 124 v < g 0 0 + 1; omega, k125 _ this.2⟩
  · rw [r124, if_pos rfl]; decide
  · rw [r125, if_pos rfl]; decide
theorem PK_beg {p : Int} (h : PK o g m x) (hm : g 0 5 - 1 ≤ m) (hb : g 130 (g 146 (g 0 5).toNat).toNat ≠ 0 → g 0 5 ≤ m) : PK (fun a => if a = (g 0 1).toNat then (g 146 (g 0 5).toNat).toNat else o a) (rf_beg g p) (g 0 5) x := by
  obtain ⟨⟨n0, n1, n2, n5⟩, h1, h2, h3, h4, h5, h6, h7, hx, h8, h9, h10⟩ := h
  obtain ⟨k, hk⟩ : ∃ k : Nat, k = (g 0 5).toNat := ⟨_, rfl⟩
  have ek : (k : Int) = g 0 5 := by omega
  have r126 : ∀ i, (rf_beg g p) 126 i = if i = (g 0 1).toNat then -1 else g 126 i := fun _ => rfl
  have r128 : ∀ i, (rf_beg g p) 128 i = if g 130 (g 146 (g 0 5).toNat).toNat ≠ 0 ∧ i = (g 147 (g 0 5).toNat).toNat then g 0 1 else if i = (g 0 1).toNat then -1 else g 128 i := fun _ => rfl
  have r129 : ∀ i, (rf_beg g p) 129 i = if g 130 (g 146 (g 0 5).toNat).toNat = 0 ∧ i = (g 146 (g 0 5).toNat).toNat then g 0 1 else g 129 i := fun _ => rfl
  have r130 : ∀ i, (rf_beg g p) 130 i = if i = (g 146 (g 0 5).toNat).toNat then g 130 i + 1 else g 130 i := fun _ => rfl
  have r147 : ∀ i, (rf_beg g p) 147 i = if i = (g 0 5).toNat then g 0 1 else g 147 i := fun _ => rfl
  have r149 : ∀ i, (rf_beg g p) 149 i = if i = (g 0 5).toNat then -1 else g 149 i := fun _ => rfl
  have r151 : ∀ i, (rf_beg g p) 151 i = if i = (g 0 5).toNat then 0 else g 151 i := fun _ => rfl
  rw [← hk] at r128 r129 r130 r147 r149 r151 hb
  rw [← hk]
  obtain ⟨f0, f1⟩ := h2 k (by omega)
  have top : g 130 (g 146 k).toNat ≠ 0 → pk_lev o g k := fun q => h1 k (by have := hb q; omega)
  have low : ∀ i : Nat, (i : Int) ≤ g 0 5 → i ≠ k → (i : Int) ≤ m := fun i hi hn => by omega
  have n128 : ∀ i : Nat, (i : Int) ≤ g 0 5 → i ≠ k → ¬ (g 130 (g 146 k).toNat ≠ 0 ∧ (g 147 i).toNat = (g 147 k).toNat) := fun i hi hn q => by
    have a := h4 i k (by omega) (by have := hb q.1; omega)
    have b := (top q.1).1
    have c := (h1 i (low i hi hn)).1
    omega
  refine ⟨⟨n0, by show 0 ≤ g 0 1 + 1; omega, n2, n5⟩, fun i hi => ?_, h2, h3, fun i j hij hj => ?_, fun i j hij hj => ⟨fun _ => ?_, ((h5 i j hij hj).2)⟩, fun i j i1 hij hj hq => ?_, fun u hu => ?_, hx, fun a ha => ?_, fun f hf => ?_, fun a ha => ?_⟩
  · by_cases c : i = k
    · subst c
      unfold pk_lev
      rw [r147, r149, r151, if_pos rfl, if_pos rfl, if_pos rfl, r126, if_pos rfl, r128, if_neg (fun q => by have := (top q.1).1; have q2 := q.2; omega), if_pos rfl]
      exact ⟨⟨n1, by show g 0 1 < g 0 1 + 1; omega⟩, by show (-1 : Int) < g 0 0; omega, fun _ => by decide, fun q => absurd q (by decide), fun q => absurd rfl q, by decide, if_pos rfl, fun q => absurd q (by decide)⟩
    · obtain ⟨l1, l2, l3, l4, l5, l6, l7, l8⟩ := h1 i (low i hi c)
      have na : (g 147 i).toNat ≠ (g 0 1).toNat := by omega
      unfold pk_lev
      rw [r147, r149, r151, if_neg c, if_neg c, if_neg c, r126, if_neg na, r128, if_neg (n128 i hi c), if_neg na]
      exact ⟨⟨l1.1, by show g 147 i < g 0 1 + 1; omega⟩, l2, l3, l4, l5, l6, (if_neg na).trans l7, l8⟩
  · have ci : i ≠ k := by omega
    rw [r147, r147, if_neg ci]
    by_cases cj : j = k
    · rw [if_pos cj]
      have := (h1 i (low i (by omega) ci)).1
      omega
    · rw [if_neg cj]
      exact h4 i j hij (low j hj cj)
  · have ci : i ≠ k := by have : (j : Int) ≤ g 0 5 := hj; omega
    rw [r149, if_neg ci]
    exact (h5 i j hij hj).1 (low i (by have : (j : Int) ≤ g 0 5 := hj; omega) ci)
  · rw [r149] at hq ⊢
    by_cases cj : j = k
    · rw [if_pos cj] at hq; exact absurd hq (by decide)
    · rw [if_neg cj] at hq ⊢
      exact h6 i j i1 hij (low j hj cj) hq
  · rcases h7 u hu with q | q | q
    · exact Or.inl q
    · refine Or.inr (Or.inl ?_)
      rcases q with ⟨a, a1, a2⟩ | ⟨v, v1, v2⟩
      · refine Or.inl ⟨a, by show (a : Int) < g 0 1 + 1; omega, ?_⟩
        rw [r126, if_neg (by omega)]
        exact a2
      · exact Or.inr ⟨v, v1, v2⟩
    · exact Or.inr (Or.inr q)
  · have ha : (a : Int) < g 0 1 + 1 := ha
    by_cases ca : (a : Int) = g 0 1
    · by_cases c0 : g 130 (g 146 k).toNat = 0
      · refine Or.inl ⟨(g 146 k).toNat, by show ((g 146 k).toNat : Int) < g 0 2; omega, ?_⟩
        rw [r129, if_pos ⟨c0, rfl⟩, ca]
      · have t := (top c0).1
        refine Or.inr ⟨(g 147 k).toNat, by omega, ?_⟩
        rw [r128, if_pos ⟨c0, rfl⟩, ca]
    · rcases h8 a (by omega) with ⟨f, f2, f3⟩ | ⟨b, b1, b2⟩
      · refine Or.inl ⟨f, f2, ?_⟩
        rw [r129, if_neg (fun q => by have := (h9 f f2).2.1 (by rw [q.2]; exact q.1); omega)]
        exact f3
      · refine Or.inr ⟨b, b1, ?_⟩
        rw [r128, if_neg (fun q => by have := (top q.1).2.2.2.2.2.1; rw [← q.2] at this; omega), if_neg (by omega)]
        exact b2
  · obtain ⟨l1, l2, l3, l4⟩ := h9 f hf
    rw [r130, r129]
    by_cases cf : f = (g 146 k).toNat
    · rw [if_pos cf]
      refine ⟨by omega, fun q => by omega, ?_⟩
      by_cases c0 : g 130 (g 146 k).toNat = 0
      · rw [if_pos ⟨c0, cf⟩]
        exact ⟨by show g 0 1 < g 0 1 + 1; omega, fun _ => (if_pos rfl).trans cf.symm⟩
      · rw [if_neg (fun q => c0 q.1)]
        exact ⟨by show g 129 f < g 0 1 + 1; omega, fun q => (if_neg (by omega)).trans (l4 q)⟩
    · rw [if_neg cf, if_neg (fun q => cf q.2)]
      exact ⟨l1, l2, by show g 129 f < g 0 1 + 1; omega, fun q => (if_neg (by omega)).trans (l4 q)⟩
  · have ha : (a : Int) < g 0 1 + 1 := ha
    rw [r128]
    by_cases c0 : g 130 (g 146 k).toNat ≠ 0 ∧ a = (g 147 k).toNat
    · rw [if_pos c0]
      refine ⟨by show g 0 1 < g 0 1 + 1; omega, fun _ => ?_⟩
      have t := top c0.1
      show (if (g 0 1).toNat = (g 0 1).toNat then (g 146 k).toNat else o (g 0 1).toNat) = if a = (g 0 1).toNat then (g 146 k).toNat else o a
      rw [if_pos rfl, if_neg (by have := t.1; omega), c0.2]
      exact t.2.2.2.2.2.2.1.symm
    · rw [if_neg c0]
      by_cases ca : a = (g 0 1).toNat
      · rw [if_pos ca]
        exact ⟨by show (-1 : Int) < g 0 1 + 1; omega, fun q => absurd q (by decide)⟩
      · rw [if_neg ca]
        obtain ⟨l1, l2⟩ := h10 a (by omega)
        refine ⟨by show g 128 a < g 0 1 + 1; omega, fun q => ?_⟩
        show (if (g 128 a).toNat = (g 0 1).toNat then (g 146 k).toNat else o (g 128 a).toNat) = if a = (g 0 1).toNat then (g 146 k).toNat else o a
        rw [if_neg (by omega), if_neg ca]
        exact l2 q
theorem PK_put {u : Int} (h : PK o g (g 0 5) u) (u0 : 0 ≤ u) (u1 : u < g 0 0) (u2 : g 124 u.toNat < 0) (u3 : g 125 u.toNat < 0) (ho : ∀ i : Nat, 1 ≤ i → (i : Int) ≤ g 0 5 → g 148 i < u) (hl : ∀ i : Nat, (i : Int) ≤ g 0 5 → g 149 i < u) : PK o (rf_put g u) (g 0 5) (-1) ∧ (g 151 (g 0 5).toNat = 0 → (rf_put g u) 149 (g 0 5).toNat = u ∧ (rf_put g u) 124 u.toNat < 0) := by
  obtain ⟨⟨n0, n1, n2, n5⟩, h1, h2, h3, h4, h5, h6, h7, ⟨hnx, hm⟩, h8⟩ := h
  obtain ⟨k, hk⟩ : ∃ k : Nat, k = (g 0 5).toNat := ⟨_, rfl⟩
  have ek : (k : Int) = g 0 5 := by omega
  have r124 : ∀ i, (rf_put g u) 124 i = if g 151 (g 0 5).toNat ≠ 0 ∧ i = (g 149 (g 0 5).toNat).toNat then u else g 124 i := fun _ => rfl
  have r125 : ∀ i, (rf_put g u) 125 i = if g 151 (g 0 5).toNat = 0 ∧ 0 ≤ g 149 (g 0 5).toNat ∧ i = (g 149 (g 0 5).toNat).toNat then u else g 125 i := fun _ => rfl
  have r126 : ∀ i, (rf_put g u) 126 i = if g 151 (g 0 5).toNat = 0 ∧ g 149 (g 0 5).toNat < 0 ∧ i = (g 147 (g 0 5).toNat).toNat then u else g 126 i := fun _ => rfl
  have r149 : ∀ i, (rf_put g u) 149 i = if g 151 (g 0 5).toNat = 0 ∧ i = (g 0 5).toNat then u else g 149 i := fun _ => rfl
  have r151 : ∀ i, (rf_put g u) 151 i = if i = (g 0 5).toNat then 0 else g 151 i := fun _ => rfl
  rw [← hk] at r124 r125 r126 r149 r151
  rw [← hk]
  obtain ⟨t1, t2, t3, t4, t5, t6, t7, t8⟩ := h1 k (by omega)
  have hlk := hl k (by omega)
  have k148 : ∀ i : Nat, 1 ≤ i → (i : Int) ≤ g 0 5 → 0 ≤ g 149 k → (g 148 i).toNat ≠ (g 149 k).toNat := fun i i1 i2 q => by
    have a := h6 i k i1 (by omega) (by omega) q
    have b := h3 i i1 i2
    omega
  have k149 : ∀ i : Nat, (i : Int) ≤ g 0 5 → i ≠ k → 0 ≤ g 149 i → 0 ≤ g 149 k → (g 149 i).toNat ≠ (g 149 k).toNat := fun i hi hn q q2 => by
    have a := (h5 i k (by omega) (by omega)).1 hi
    have b := h6 k k (by omega) (Nat.le_refl _) (by omega) q2
    omega
  have k147 : ∀ i : Nat, (i : Int) ≤ g 0 5 → i ≠ k → (g 147 i).toNat ≠ (g 147 k).toNat := fun i hi hn => by
    have a := h4 i k (by omega) (by omega)
    have b := (h1 i hi).1
    omega
  have knm : ∀ z : Int, z ≠ u → nm g z → nm (rf_put g u) z := fun z z0 q v hv => by
    rw [r124]
    by_cases c : g 151 k ≠ 0 ∧ v = (g 149 k).toNat
    · rw [if_pos c]; exact fun e => z0 e.symm
    · rw [if_neg c]; exact q v hv
  have nuk : 0 ≤ g 149 k → u.toNat ≠ (g 149 k).toNat := fun q => by omega
  refine ⟨⟨⟨n0, n1, n2, n5⟩, fun i hi => ?_, h2, fun i i1 i2 => ?_, h4, fun i j hij hj => ⟨fun hi => ?_, (h5 i j hij hj).2⟩, fun i j i1 hij hj hq => ?_, fun v hv => ?_, ⟨fun q => absurd q (by decide), fun v hv q => ?_⟩, h8⟩, fun q => ?_⟩
  · by_cases c : i = k
    · rw [c]
      unfold pk_lev
      have e47 : (rf_put g u) 147 k = g 147 k := rfl
      have e28 : (rf_put g u) 128 = g 128 := rfl
      have e46 : (rf_put g u) 146 k = g 146 k := rfl
      rw [e47, e28, e46, r151, if_pos rfl, r149]
      by_cases c0 : g 151 k = 0
      · rw [if_pos ⟨c0, rfl⟩]
        refine ⟨t1, u1, fun q => by omega, fun _ => ?_, fun q => absurd rfl q, t6, t7, fun q v hv => ?_⟩
        · rw [r125, if_neg (fun q => nuk q.2.1 q.2.2)]
          exact u3
        · rw [r124, if_neg (fun q => q.1 c0)]
          exact hnx u0 v hv
      · rw [if_neg (fun q => c0 q.1)]
        obtain ⟨s1, s2⟩ := t5 c0
        refine ⟨t1, t2, fun q => by omega, fun q => ?_, fun q => absurd rfl q, t6, t7, fun q => knm _ (by omega) (t8 q)⟩
        rw [r125, if_neg (fun q => c0 q.1)]
        exact t4 q
    · obtain ⟨l1, l2, l3, l4, l5, l6, l7, l8⟩ := h1 i hi
      unfold pk_lev
      have e47 : (rf_put g u) 147 i = g 147 i := rfl
      have e28 : (rf_put g u) 128 = g 128 := rfl
      have e46 : (rf_put g u) 146 i = g 146 i := rfl
      rw [e47, e28, e46, r151, if_neg c, r149, if_neg (fun q => c q.2)]
      refine ⟨l1, l2, fun q => ?_, fun q => ?_, fun q => ⟨(l5 q).1, ?_⟩, l6, l7, fun q => knm _ (by have := hl i hi; omega) (l8 q)⟩
      · rw [r126, if_neg (fun z => k147 i hi c z.2.2)]
        exact l3 q
      · rw [r125, if_neg (fun z => k149 i hi c q z.2.1 z.2.2)]
        exact l4 q
      · rw [r124, if_neg (fun z => k149 i hi c (l5 q).1 (t5 z.1).1 z.2)]
        exact (l5 q).2
  · obtain ⟨l1, l2, l3, l4, l5⟩ := h3 i i1 i2
    have e48 : (rf_put g u) 148 i = g 148 i := rfl
    rw [e48]
    refine ⟨l1, l2, ?_, ?_, knm _ (by have := ho i i1 i2; omega) l5⟩
    · rw [r124, if_neg (fun z => k148 i i1 i2 (t5 z.1).1 z.2)]
      exact l3
    · rw [r125, if_neg (fun z => k148 i i1 i2 z.2.1 z.2.2)]
      exact l4
  · have hj : (j : Int) ≤ g 0 5 := hj
    rw [r149, if_neg (fun q => by have := q.2; omega)]
    exact (h5 i j hij hj).1 hi
  · rw [r149] at hq ⊢
    by_cases c : g 151 k = 0 ∧ j = k
    · rw [if_pos c]
      exact ho i i1 (by omega)
    · rw [if_neg c] at hq ⊢
      exact h6 i j i1 hij hj hq
  · by_cases cv : (v : Int) = u
    · refine Or.inr (Or.inl ?_)
      rw [cv]
      by_cases c0 : g 151 k = 0
      · by_cases c1 : 0 ≤ g 149 k
        · refine Or.inr ⟨(g 149 k).toNat, by show ((g 149 k).toNat : Int) < g 0 0; omega, Or.inl ?_⟩
          rw [r125, if_pos ⟨c0, c1, rfl⟩]
        · refine Or.inl ⟨(g 147 k).toNat, by show ((g 147 k).toNat : Int) < g 0 1; omega, ?_⟩
          rw [r126, if_pos ⟨c0, by omega, rfl⟩]
      · have s := t5 c0
        refine Or.inr ⟨(g 149 k).toNat, by show ((g 149 k).toNat : Int) < g 0 0; omega, Or.inr ?_⟩
        rw [r124, if_pos ⟨c0, rfl⟩]
    · refine Or.inr ?_
      rcases h7 v hv with q | q | q
      · exact absurd q cv
      · refine Or.inl ?_
        rcases q with ⟨a, a1, a2⟩ | ⟨w, w1, w2⟩
        · refine Or.inl ⟨a, a1, ?_⟩
          rw [r126, if_neg (fun z => by have := t3 z.2.1; rw [← z.2.2] at this; omega)]
          exact a2
        · refine Or.inr ⟨w, w1, ?_⟩
          rcases w2 with w2 | w2
          · refine Or.inl ?_
            rw [r125, if_neg (fun z => by have := t4 z.2.1; rw [← z.2.2] at this; omega)]
            exact w2
          · refine Or.inr ?_
            rw [r124, if_neg (fun z => by have := (t5 z.1).2; rw [← z.2] at this; omega)]
            exact w2
      · exact Or.inr q
  · rw [r124] at q ⊢
    by_cases c : g 151 k ≠ 0 ∧ v = (g 149 k).toNat
    · rw [if_pos c]
      refine ⟨u1, ?_⟩
      rw [r125, if_neg (fun z => c.1 z.1)]
      exact u3
    · rw [if_neg c] at q ⊢
      obtain ⟨m1, m2⟩ := hm v hv q
      refine ⟨m1, ?_⟩
      rw [r125, if_neg (fun z => t8 z.2.1 v hv (by have := z.2.2; omega))]
      exact m2
  · rw [r149, if_pos ⟨q, rfl⟩, r124, if_neg (fun z => z.1 q)]
    exact ⟨rfl, u2⟩
end PKS
