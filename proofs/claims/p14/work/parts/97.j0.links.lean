/-! READING, purely: how units hang together; ow: of a unit that is the second of a pair, the first one -/
def pi_un (g : wk_g) (u : Int) : Prop := (0 ≤ u ∧ u < g 0 0) ∧ g 124 u.toNat = -1 ∧ g 125 u.toNat = -1 ∧ (∀ v : Nat, (v : Int) < g 0 0 → g 124 v ≠ u ∧ g 125 v ≠ u) ∧ ∀ a : Nat, (a : Int) < g 0 1 → g 126 a ≠ u
def pi_lev (ow : Nat → Nat) (g : wk_g) (i : Nat) : Prop := (0 ≤ g 147 i ∧ g 147 i < g 0 1) ∧ (-1 ≤ g 149 i ∧ g 149 i < g 0 0) ∧ (-1 ≤ g 150 i ∧ g 150 i < g 0 0) ∧ (g 149 i < 0 ↔ g 150 i < 0) ∧ (0 ≤ g 150 i → ow (g 150 i).toNat = (g 149 i).toNat ∧ g 124 (g 150 i).toNat = -1 ∧ g 125 (g 149 i).toNat = -1) ∧ (g 151 i ≠ 0 → 0 ≤ g 149 i ∧ g 150 i = g 149 i)
def pi_u (ow : Nat → Nat) (g : wk_g) (v : Nat) : Prop := (-1 ≤ g 124 v ∧ g 124 v < g 0 0) ∧ (-1 ≤ g 125 v ∧ g 125 v < g 0 0) ∧ (0 ≤ g 124 v → ow (g 124 v).toNat = v ∧ g 124 (g 124 v).toNat = -1) ∧ (0 ≤ g 125 v → ow (g 125 v).toNat = (g 125 v).toNat) ∧ (ow v = v ∨ ((ow v : Int) < g 0 0 ∧ g 124 (ow v) = v))
def PI (ow : Nat → Nat) (g : wk_g) (m : Int) : Prop :=
  ((0 ≤ g 0 0 ∧ g 0 0 ≤ 60) ∧ 0 ≤ g 0 1 ∧ (0 ≤ g 0 3 ∧ g 0 3 ≤ 10) ∧ (g 0 3 ≤ g 0 2 ∧ g 0 2 ≤ g 0 0 + g 0 3) ∧ (0 ≤ g 0 4 ∧ g 0 4 ≤ 20) ∧ (0 ≤ g 0 5 ∧ g 0 5 ≤ 4)) ∧
  (∀ i : Nat, (i : Int) ≤ m → pi_lev ow g i) ∧
  (∀ i : Nat, (i : Int) ≤ g 0 5 → 0 ≤ g 146 i ∧ g 146 i < g 0 2) ∧
  (∀ i : Nat, 1 ≤ i → (i : Int) ≤ g 0 5 → pi_un g (g 148 i)) ∧
  (∀ i j : Nat, i < j → (j : Int) ≤ g 0 5 → (g 149 i < g 148 j ∧ g 150 i < g 148 j) ∧ (1 ≤ i → g 148 i < g 148 j)) ∧
  (∀ i j : Nat, 1 ≤ i → i ≤ j → (j : Int) ≤ m → (0 ≤ g 149 j → g 148 i < g 149 j) ∧ (0 ≤ g 150 j → g 148 i < g 150 j)) ∧
  (∀ v : Nat, (v : Int) < g 0 0 → pi_u ow g v) ∧
  (∀ a : Nat, (a : Int) < g 0 1 → (-1 ≤ g 126 a ∧ g 126 a < g 0 0) ∧ (0 ≤ g 126 a → ow (g 126 a).toNat = (g 126 a).toNat)) ∧
  (∀ f : Nat, (f : Int) < g 0 2 → 0 ≤ g 130 f ∧ g 130 f ≤ 6)
/-- what of it holds between rules -/
def PR (ow : Nat → Nat) (g : wk_g) : Prop :=
  ((0 ≤ g 0 0 ∧ g 0 0 ≤ 60) ∧ 0 ≤ g 0 1 ∧ (0 ≤ g 0 3 ∧ g 0 3 ≤ 10) ∧ (g 0 3 ≤ g 0 2 ∧ g 0 2 ≤ g 0 0 + g 0 3) ∧ (0 ≤ g 0 4 ∧ g 0 4 ≤ 20)) ∧
  (∀ v : Nat, (v : Int) < g 0 0 → pi_u ow g v) ∧
  (∀ a : Nat, (a : Int) < g 0 1 → (-1 ≤ g 126 a ∧ g 126 a < g 0 0) ∧ (0 ≤ g 126 a → ow (g 126 a).toNat = (g 126 a).toNat)) ∧
  (∀ f : Nat, (f : Int) < g 0 2 → 0 ≤ g 130 f ∧ g 130 f ≤ 6)
theorem PI.r {ow : Nat → Nat} {g : wk_g} {m : Int} (h : PI ow g m) : PR ow g := ⟨⟨h.1.1, h.1.2.1, h.1.2.2.1, h.1.2.2.2.1, h.1.2.2.2.2.1⟩, h.2.2.2.2.2.2.1, h.2.2.2.2.2.2.2.1, h.2.2.2.2.2.2.2.2⟩
section PIL
variable {ow : Nat → Nat} {g : wk_g} {m : Int}
theorem pi_uno {u : Int} (hP : PI ow g m) (hu : pi_un g u) : ow u.toNat = u.toNat := by
  obtain ⟨⟨u0, u1⟩, -, -, u4, -⟩ := hu
  rcases (hP.2.2.2.2.2.2.1 u.toNat (by omega)).2.2.2.2 with x | ⟨x1, x2⟩
  · exact x
  · exact absurd (by rw [x2]; omega) (u4 _ x1).1
/-- rows that PI does not look at -/
theorem PI_cg {g' : wk_g} (hP : PI ow g m) (e0 : g' 0 0 = g 0 0 ∧ g' 0 1 = g 0 1 ∧ g' 0 2 = g 0 2 ∧ g' 0 3 = g 0 3 ∧ g' 0 5 = g 0 5) (e4 : 0 ≤ g' 0 4 ∧ g' 0 4 ≤ 20) (e : ∀ r, r ∈ [124, 125, 126, 130, 146, 147, 148, 149, 150, 151] → ∀ i, g' r i = g r i) : PI ow g' m := by
  have a124 := e 124 (by decide)
  have a125 := e 125 (by decide)
  have a126 := e 126 (by decide)
  have a130 := e 130 (by decide)
  have a146 := e 146 (by decide)
  have a147 := e 147 (by decide)
  have a148 := e 148 (by decide)
  have a149 := e 149 (by decide)
  have a150 := e 150 (by decide)
  have a151 := e 151 (by decide)
  obtain ⟨z0, z1, z2, z3, z5⟩ := e0
  obtain ⟨⟨p1, p2, p3, p4, p5, p6⟩, pR⟩ := hP
  unfold PI pi_lev pi_un pi_u at *
  simp only [a124, a125, a126, a130, a146, a147, a148, a149, a150, a151, z0, z1, z2, z3, z5]
  exact ⟨⟨p1, p2, p3, p4, e4, p6⟩, pR⟩
theorem PI_beg {p : Int} (hP : PI ow g m) (hm : g 0 5 - 1 ≤ m) (hc : g 130 (g 146 (g 0 5).toNat).toNat ≤ 5) : PI ow (rf_beg g p) (g 0 5) := by
  obtain ⟨⟨p1, p2, p3, p4, p5, p6⟩, q1, q2, q3, q4, q5, q6, q7, q8⟩ := hP
  obtain ⟨g', hg⟩ : ∃ g', g' = rf_beg g p := ⟨_, rfl⟩
  rw [← hg]
  have z0 : g' 0 0 = g 0 0 := by rw [hg]; rfl
  have z1 : g' 0 1 = g 0 1 + 1 := by rw [hg]; rfl
  have z2 : g' 0 2 = g 0 2 := by rw [hg]; rfl
  have z3 : g' 0 3 = g 0 3 := by rw [hg]; rfl
  have z4 : g' 0 4 = g 0 4 := by rw [hg]; rfl
  have z5 : g' 0 5 = g 0 5 := by rw [hg]; rfl
  have a124 : ∀ i, g' 124 i = g 124 i := fun i => by rw [hg]; rfl
  have a125 : ∀ i, g' 125 i = g 125 i := fun i => by rw [hg]; rfl
  have a126 : ∀ i, g' 126 i = if i = (g 0 1).toNat then -1 else g 126 i := fun i => by rw [hg]; rfl
  have a130 : ∀ i, g' 130 i = if i = (g 146 (g 0 5).toNat).toNat then g 130 i + 1 else g 130 i := fun i => by rw [hg]; rfl
  have a146 : ∀ i, g' 146 i = g 146 i := fun i => by rw [hg]; rfl
  have a148 : ∀ i, g' 148 i = g 148 i := fun i => by rw [hg]; rfl
  have a147 : ∀ i, g' 147 i = if i = (g 0 5).toNat then g 0 1 else g 147 i := fun i => by rw [hg]; rfl
  have a149 : ∀ i, g' 149 i = if i = (g 0 5).toNat then -1 else g 149 i := fun i => by rw [hg]; rfl
  have a150 : ∀ i, g' 150 i = if i = (g 0 5).toNat then -1 else g 150 i := fun i => by rw [hg]; rfl
  have a151 : ∀ i, g' 151 i = if i = (g 0 5).toNat then 0 else g 151 i := fun i => by rw [hg]; rfl
  clear hg
  have un : ∀ {u}, pi_un g u → pi_un g' u := fun {u} ⟨x1, x2, x3, x4, x5⟩ => by
    refine ⟨by rw [z0]; exact x1, by rw [a124]; exact x2, by rw [a125]; exact x3, fun v hv => by rw [a124, a125]; exact x4 v (by omega), fun a ha => ?_⟩
    rw [a126]
    by_cases c : a = (g 0 1).toNat
    · rw [if_pos c]; omega
    · rw [if_neg c]; exact x5 a (by omega)
  refine ⟨⟨by omega, by omega, by omega, by omega, by omega, by omega⟩, fun i hi => ?_, fun i hi => ?_, fun i i1 hi => ?_, fun i j ij hj => ?_, fun i j i1 ij hj => ?_, fun v hv => ?_, fun a ha => ?_, fun f hf => ?_⟩
  · by_cases c : i = (g 0 5).toNat
    · unfold pi_lev
      rw [a147, a149, a150, a151, if_pos c, if_pos c, if_pos c, if_pos c]
      exact ⟨by omega, by omega, by omega, by omega, fun x => by omega, fun x => absurd rfl x⟩
    · have x := q1 i (by omega)
      unfold pi_lev at x ⊢
      rw [a147, a149, a150, a151, if_neg c, if_neg c, if_neg c, if_neg c, a124, a125, z0, z1]
      exact ⟨by omega, x.2⟩
  · rw [a146, z2]
    exact q2 i (by omega)
  · rw [a148]
    exact un (q3 i i1 (by omega))
  · rw [a149, a150, a148, a148, if_neg (by omega), if_neg (by omega)]
    exact q4 i j ij (by omega)
  · rw [a149, a150, a148]
    by_cases c : j = (g 0 5).toNat
    · rw [if_pos c, if_pos c]
      exact ⟨fun x => by omega, fun x => by omega⟩
    · rw [if_neg c, if_neg c]
      exact q5 i j i1 ij (by omega)
  · have x := q6 v (by omega)
    unfold pi_u at x ⊢
    simp only [a124, a125, z0]
    exact x
  · rw [a126, z0]
    by_cases c : a = (g 0 1).toNat
    · rw [if_pos c]
      exact ⟨by omega, fun x => by omega⟩
    · rw [if_neg c]
      exact q7 a (by omega)
  · rw [a130]
    have x := q8 f (by omega)
    by_cases c : f = (g 146 (g 0 5).toNat).toNat
    · rw [if_pos c]
      rw [← c] at hc
      omega
    · rw [if_neg c]
      exact x
/-- a unit more, that hangs nowhere -/
def ow_new (g : wk_g) (ow : Nat → Nat) : Nat → Nat := fun v => if v = (g 0 0).toNat then (g 0 0).toNat else ow v
theorem PI_unit {s w p : Int} (hP : PI ow g m) (hU : g 0 0 < 60) : PI (ow_new g ow) (rf_unit g s w p) m ∧ pi_un (rf_unit g s w p) (g 0 0) := by
  obtain ⟨⟨p1, p2, p3, p4, p5, p6⟩, q1, q2, q3, q4, q5, q6, q7, q8⟩ := hP
  obtain ⟨g', hg⟩ : ∃ g', g' = rf_unit g s w p := ⟨_, rfl⟩
  rw [← hg]
  have z0 : g' 0 0 = g 0 0 + 1 := by rw [hg]; rfl
  have z1 : g' 0 1 = g 0 1 := by rw [hg]; rfl
  have z2 : g' 0 2 = g 0 2 := by rw [hg]; rfl
  have z3 : g' 0 3 = g 0 3 := by rw [hg]; rfl
  have z4 : g' 0 4 = g 0 4 := by rw [hg]; rfl
  have z5 : g' 0 5 = g 0 5 := by rw [hg]; rfl
  have a124 : ∀ i, g' 124 i = if i = (g 0 0).toNat then -1 else g 124 i := fun i => by rw [hg]; rfl
  have a125 : ∀ i, g' 125 i = if i = (g 0 0).toNat then -1 else g 125 i := fun i => by rw [hg]; rfl
  have a126 : ∀ i, g' 126 i = g 126 i := fun i => by rw [hg]; rfl
  have a130 : ∀ i, g' 130 i = g 130 i := fun i => by rw [hg]; rfl
  have a146 : ∀ i, g' 146 i = g 146 i := fun i => by rw [hg]; rfl
  have a148 : ∀ i, g' 148 i = g 148 i := fun i => by rw [hg]; rfl
  have a147 : ∀ i, g' 147 i = g 147 i := fun i => by rw [hg]; rfl
  have a149 : ∀ i, g' 149 i = g 149 i := fun i => by rw [hg]; rfl
  have a150 : ∀ i, g' 150 i = g 150 i := fun i => by rw [hg]; rfl
  have a151 : ∀ i, g' 151 i = g 151 i := fun i => by rw [hg]; rfl
  clear hg
  have on : ∀ v : Nat, (v : Int) < g 0 0 → ow_new g ow v = ow v := fun v hv => by
    unfold ow_new
    rw [if_neg (by omega)]
  have un : ∀ {u}, pi_un g u → pi_un g' u := fun {u} ⟨x1, x2, x3, x4, x5⟩ => by
    refine ⟨by rw [z0]; omega, by rw [a124, if_neg (by omega)]; exact x2, by rw [a125, if_neg (by omega)]; exact x3, fun v hv => ?_, fun a ha => by rw [a126]; exact x5 a (by omega)⟩
    rw [a124, a125]
    by_cases c : v = (g 0 0).toNat
    · rw [if_pos c, if_pos c]; omega
    · rw [if_neg c, if_neg c]; exact x4 v (by omega)
  refine ⟨⟨⟨by omega, by omega, by omega, by omega, by omega, by omega⟩, fun i hi => ?_, fun i hi => ?_, fun i i1 hi => ?_, fun i j ij hj => ?_, fun i j i1 ij hj => ?_, fun v hv => ?_, fun a ha => ?_, fun f hf => ?_⟩, ?_⟩
  · have x := q1 i hi
    obtain ⟨x1, x2, x3, x4, x5, x6⟩ := x
    unfold pi_lev
    rw [a147, a149, a150, a151, z0, z1]
    refine ⟨x1, by omega, by omega, x4, fun y => ?_, x6⟩
    rw [on _ (by omega), a124, a125, if_neg (by omega), if_neg (by omega)]
    exact x5 y
  · rw [a146, z2]
    exact q2 i (by omega)
  · rw [a148]
    exact un (q3 i i1 (by omega))
  · rw [a149, a150, a148, a148]
    exact q4 i j ij (by omega)
  · rw [a149, a150, a148]
    exact q5 i j i1 ij hj
  · unfold pi_u
    by_cases c : v = (g 0 0).toNat
    · rw [a124, a125, if_pos c, if_pos c]
      refine ⟨by omega, by omega, fun x => by omega, fun x => by omega, Or.inl ?_⟩
      unfold ow_new
      rw [if_pos c, c]
    · obtain ⟨x1, x2, x3, x4, x5⟩ := q6 v (by omega)
      rw [a124, a125, if_neg c, if_neg c, on v (by omega)]
      refine ⟨by omega, by omega, fun y => ?_, fun y => ?_, ?_⟩
      · rw [on _ (by omega), a124, if_neg (by omega)]
        exact x3 y
      · rw [on _ (by omega)]
        exact x4 y
      · rcases x5 with x5 | ⟨x5, x6⟩
        · exact Or.inl x5
        · right
          rw [a124, if_neg (by omega)]
          exact ⟨by omega, x6⟩
  · obtain ⟨x1, x2⟩ := q7 a (by omega)
    rw [a126, z0]
    refine ⟨by omega, fun y => ?_⟩
    rw [on _ (by omega)]
    exact x2 y
  · rw [a130]
    exact q8 f (by omega)
  · refine ⟨by omega, by rw [a124, if_pos rfl], by rw [a125, if_pos rfl], fun v hv => ?_, fun a ha => ?_⟩
    · rw [a124, a125]
      by_cases c : v = (g 0 0).toNat
      · rw [if_pos c, if_pos c]; omega
      · rw [if_neg c, if_neg c]
        have := q6 v (by omega)
        unfold pi_u at this
        omega
    · rw [a126]
      have := (q7 a (by omega)).1
      omega
/-- a unit is hung up -/
def ow_put (g : wk_g) (ow : Nat → Nat) (u : Int) : Nat → Nat := fun v => if g 151 (g 0 5).toNat ≠ 0 ∧ v = u.toNat then (g 149 (g 0 5).toNat).toNat else ow v
theorem PI_put {u : Int} (hP : PI ow g (g 0 5)) (hu : pi_un g u) (ho : ∀ i : Nat, 1 ≤ i → (i : Int) ≤ g 0 5 → g 148 i < u) (hl : ∀ i : Nat, (i : Int) ≤ g 0 5 → g 149 i < u ∧ g 150 i < u) : PI (ow_put g ow u) (rf_put g u) (g 0 5) := by
  have hou := pi_uno hP hu
  obtain ⟨⟨p1, p2, p3, p4, p5, p6⟩, q1, q2, q3, q4, q5, q6, q7, q8⟩ := hP
  obtain ⟨g', hg⟩ : ∃ g', g' = rf_put g u := ⟨_, rfl⟩
  rw [← hg]
  have z : ∀ i, g' 0 i = g 0 i := fun i => by rw [hg]; rfl
  have K : ((g 0 5).toNat : Int) = g 0 5 := by omega
  obtain ⟨k, hk⟩ : ∃ k, k = (g 0 5).toNat := ⟨_, rfl⟩
  have a124 : ∀ i, g' 124 i = if g 151 k ≠ 0 ∧ i = (g 149 k).toNat then u else g 124 i := fun i => by rw [hg, hk]; rfl
  have a125 : ∀ i, g' 125 i = if g 151 k = 0 ∧ 0 ≤ g 149 k ∧ i = (g 149 k).toNat then u else g 125 i := fun i => by rw [hg, hk]; rfl
  have a126 : ∀ i, g' 126 i = if g 151 k = 0 ∧ g 149 k < 0 ∧ i = (g 147 k).toNat then u else g 126 i := fun i => by rw [hg, hk]; rfl
  have a130 : ∀ i, g' 130 i = g 130 i := fun i => by rw [hg]; rfl
  have a146 : ∀ i, g' 146 i = g 146 i := fun i => by rw [hg]; rfl
  have a148 : ∀ i, g' 148 i = g 148 i := fun i => by rw [hg]; rfl
  have a147 : ∀ i, g' 147 i = g 147 i := fun i => by rw [hg]; rfl
  have a149 : ∀ i, g' 149 i = if g 151 k = 0 ∧ i = k then u else g 149 i := fun i => by rw [hg, hk]; rfl
  have a150 : ∀ i, g' 150 i = if i = k then u else g 150 i := fun i => by rw [hg, hk]; rfl
  have a151 : ∀ i, g' 151 i = if i = k then 0 else g 151 i := fun i => by rw [hg, hk]; rfl
  have aow : ∀ v, ow_put g ow u v = if g 151 k ≠ 0 ∧ v = u.toNat then (g 149 k).toNat else ow v := fun v => by rw [hk]; rfl
  clear hg
  obtain ⟨⟨u0, u1⟩, u2, u3, u4, u5⟩ := hu
  obtain ⟨l1, l2, l3, l4, l5, l6⟩ := q1 k (by omega)
  have uk := hl k (by omega)
  have kI : (k : Int) = g 0 5 := by omega
  by_cases cs : g 151 k = 0
  · /- no pair -/
    have b124 : ∀ i, g' 124 i = g 124 i := fun i => by rw [a124, if_neg (fun x => x.1 cs)]
    have bow : ∀ v, ow_put g ow u v = ow v := fun v => by rw [aow, if_neg (fun x => x.1 cs)]
    have bow' : ow_put g ow u = ow := funext bow
    rw [bow']
    have b149 : ∀ i, g' 149 i = if i = k then u else g 149 i := fun i => by
      rw [a149]
      by_cases c : i = k
      · rw [if_pos ⟨cs, c⟩, if_pos c]
      · rw [if_neg (fun x => c x.2), if_neg c]
    have b125 : ∀ i : Nat, (i : Int) ≠ g 149 k → g' 125 i = g 125 i := fun i hi => by
      rw [a125, if_neg (fun x => by omega)]
    have un : ∀ {w}, w ≠ u → w ≠ g 149 k → pi_un g w → pi_un g' w := fun {w} n1 n2 ⟨⟨x0, x1⟩, x2, x3, x4, x5⟩ => by
      refine ⟨by rw [z]; omega, by rw [b124]; exact x2, by rw [b125 _ (by omega)]; exact x3, fun v hv => ?_, fun a ha => ?_⟩
      · rw [z] at hv
        rw [b124, a125]
        refine ⟨(x4 v hv).1, ?_⟩
        by_cases c : g 151 k = 0 ∧ 0 ≤ g 149 k ∧ v = (g 149 k).toNat
        · rw [if_pos c]; exact fun y => n1 y.symm
        · rw [if_neg c]; exact (x4 v hv).2
      · rw [z] at ha
        rw [a126]
        by_cases c : g 151 k = 0 ∧ g 149 k < 0 ∧ a = (g 147 k).toNat
        · rw [if_pos c]; exact fun y => n1 y.symm
        · rw [if_neg c]; exact x5 a ha
    refine ⟨by simp only [z]; exact ⟨p1, p2, p3, p4, p5, p6⟩, fun i hi => ?_, fun i hi => ?_, fun i i1 hi => ?_, fun i j ij hj => ?_, fun i j i1 ij hj => ?_, fun v hv => ?_, fun a ha => ?_, fun f hf => ?_⟩
    · unfold pi_lev
      rw [a147, b149, a150, a151, z, z]
      by_cases c : i = k
      · rw [if_pos c, if_pos c, if_pos c, b124, b125 _ (by omega), c]
        exact ⟨l1, by omega, by omega, by omega, fun _ => ⟨hou, u2, u3⟩, fun x => absurd rfl x⟩
      · rw [if_neg c, if_neg c, if_neg c, b124]
        obtain ⟨x1, x2, x3, x4, x5, x6⟩ := q1 i hi
        refine ⟨x1, x2, x3, x4, fun y => ?_, x6⟩
        have o1 := (q4 i k (by omega) (by omega)).1
        have ne : 0 ≤ g 149 k → g 149 i < g 149 k := fun y => by
          have := (q5 k k (by omega) (by omega) (by omega)).1 y
          omega
        rw [b125 _ (by omega)]
        exact x5 y
    · rw [a146, z]
      rw [z] at hi
      exact q2 i hi
    · rw [z] at hi
      rw [a148]
      refine un ?_ ?_ (q3 i i1 hi)
      · have := ho i i1 hi
        omega
      · intro y
        have := (q3 i i1 hi).1
        have := (q5 i k i1 (by omega) (by omega)).1 (by omega)
        omega
    · rw [z] at hj
      rw [b149, a150, a148, a148, if_neg (by omega), if_neg (by omega)]
      exact q4 i j ij hj
    · rw [b149, a150, a148]
      by_cases c : j = k
      · rw [if_pos c, if_pos c]
        have := ho i i1 (by omega)
        exact ⟨fun _ => this, fun _ => this⟩
      · rw [if_neg c, if_neg c]
        exact q5 i j i1 ij hj
    · rw [z] at hv
      obtain ⟨x1, x2, x3, x4, x5⟩ := q6 v hv
      unfold pi_u
      rw [b124, z, a125]
      refine ⟨x1, ?_, fun y => ?_, ?_, ?_⟩
      · by_cases c : g 151 k = 0 ∧ 0 ≤ g 149 k ∧ v = (g 149 k).toNat
        · rw [if_pos c]; omega
        · rw [if_neg c]; exact x2
      · rw [b124]; exact x3 y
      · by_cases c : g 151 k = 0 ∧ 0 ≤ g 149 k ∧ v = (g 149 k).toNat
        · rw [if_pos c]; exact fun _ => hou
        · rw [if_neg c]; exact x4
      · rw [b124]; exact x5
    · rw [z] at ha
      rw [a126, z]
      by_cases c : g 151 k = 0 ∧ g 149 k < 0 ∧ a = (g 147 k).toNat
      · rw [if_pos c]
        exact ⟨by omega, fun _ => hou⟩
      · rw [if_neg c]
        exact q7 a ha
    · rw [a130]
      rw [z] at hf
      exact q8 f hf
  · /- the second of a pair -/
    obtain ⟨w0, w1⟩ := l6 cs
    obtain ⟨v1, v2, v3⟩ := l5 (by omega)
    rw [w1] at v1 v2
    have b124 : ∀ i : Nat, g' 124 i = if (i : Int) = g 149 k then u else g 124 i := fun i => by
      rw [a124]
      by_cases c : (i : Int) = g 149 k
      · rw [if_pos ⟨cs, by omega⟩, if_pos c]
      · rw [if_neg (fun x => by omega), if_neg c]
    have b125 : ∀ i, g' 125 i = g 125 i := fun i => by rw [a125, if_neg (fun x => cs x.1)]
    have b126 : ∀ i, g' 126 i = g 126 i := fun i => by rw [a126, if_neg (fun x => cs x.1)]
    have b149 : ∀ i, g' 149 i = g 149 i := fun i => by rw [a149, if_neg (fun x => cs x.1)]
    have bow : ∀ v : Nat, ow_put g ow u v = if (v : Int) = u then (g 149 k).toNat else ow v := fun v => by
      rw [aow]
      by_cases c : (v : Int) = u
      · rw [if_pos ⟨cs, by omega⟩, if_pos c]
      · rw [if_neg (fun x => by omega), if_neg c]
    have un : ∀ {w}, w ≠ u → w ≠ g 149 k → pi_un g w → pi_un g' w := fun {w} n1 n2 ⟨⟨x0, x1⟩, x2, x3, x4, x5⟩ => by
      refine ⟨by rw [z]; omega, by rw [b124, if_neg (by omega)]; exact x2, by rw [b125]; exact x3, fun v hv => ?_, fun a ha => by rw [z] at ha; rw [b126]; exact x5 a ha⟩
      rw [z] at hv
      rw [b125, b124]
      refine ⟨?_, (x4 v hv).2⟩
      by_cases c : (v : Int) = g 149 k
      · rw [if_pos c]; exact fun y => n1 y.symm
      · rw [if_neg c]; exact (x4 v hv).1
    refine ⟨by simp only [z]; exact ⟨p1, p2, p3, p4, p5, p6⟩, fun i hi => ?_, fun i hi => ?_, fun i i1 hi => ?_, fun i j ij hj => ?_, fun i j i1 ij hj => ?_, fun v hv => ?_, fun a ha => ?_, fun f hf => ?_⟩
    · unfold pi_lev
      rw [a147, b149, a150, a151, z, z]
      by_cases c : i = k
      · rw [if_pos c, if_pos c, c]
        refine ⟨l1, l2, by omega, by omega, fun _ => ?_, fun x => absurd rfl x⟩
        rw [bow, if_pos (by omega), b124, if_neg (by omega), b125]
        exact ⟨rfl, u2, v3⟩
      · rw [if_neg c, if_neg c]
        obtain ⟨x1, x2, x3, x4, x5, x6⟩ := q1 i hi
        refine ⟨x1, x2, x3, x4, fun y => ?_, x6⟩
        have o1 := (q4 i k (by omega) (by omega)).1
        have ne := (q5 k k (by omega) (by omega) (by omega)).1 w0
        have ui := hl i (by omega)
        rw [bow, if_neg (by omega), b124, if_neg (by omega), b125]
        exact x5 y
    · rw [a146, z]
      rw [z] at hi
      exact q2 i hi
    · rw [z] at hi
      rw [a148]
      refine un ?_ ?_ (q3 i i1 hi)
      · have := ho i i1 hi
        omega
      · have := (q5 i k i1 (by omega) (by omega)).1 w0
        omega
    · rw [z] at hj
      rw [b149, a150, a148, a148, if_neg (by omega)]
      exact q4 i j ij hj
    · rw [b149, a150, a148]
      by_cases c : j = k
      · rw [if_pos c]
        have := ho i i1 (by omega)
        exact ⟨(q5 i j i1 ij hj).1, fun _ => this⟩
      · rw [if_neg c]
        exact q5 i j i1 ij hj
    · rw [z] at hv
      obtain ⟨x1, x2, x3, x4, x5⟩ := q6 v hv
      unfold pi_u
      rw [b124, z, b125]
      refine ⟨?_, x2, ?_, fun y => ?_, ?_⟩
      · by_cases c : (v : Int) = g 149 k
        · rw [if_pos c]; omega
        · rw [if_neg c]; exact x1
      · by_cases c : (v : Int) = g 149 k
        · rw [if_pos c]
          intro _
          rw [bow, if_pos (by omega), b124, if_neg (by omega)]
          exact ⟨by omega, u2⟩
        · rw [if_neg c]
          intro y
          have n1 := (u4 v hv).1
          obtain ⟨x31, x32⟩ := x3 y
          rw [bow, if_neg (by omega), b124]
          refine ⟨x31, ?_⟩
          by_cases c2 : ((g 124 v).toNat : Int) = g 149 k
          · exfalso
            have e2 : (g 124 v).toNat = (g 149 k).toNat := by omega
            rw [e2, v1] at x31
            omega
          · rw [if_neg c2]; exact x32
      · have n1 := (u4 v hv).2
        rw [bow, if_neg (by omega)]
        exact x4 y
      · rw [bow]
        by_cases c : (v : Int) = u
        · rw [if_pos c]
          right
          rw [b124, if_pos (by omega)]
          exact ⟨by omega, by omega⟩
        · rw [if_neg c]
          rcases x5 with x5 | ⟨x5, x6⟩
          · exact Or.inl x5
          · right
            refine ⟨x5, ?_⟩
            rw [b124]
            by_cases c2 : (ow v : Int) = g 149 k
            · exfalso
              have e2 : ow v = (g 149 k).toNat := by omega
              rw [e2, v2] at x6
              omega
            · rw [if_neg c2]; exact x6
    · rw [z] at ha
      rw [b126, z]
      obtain ⟨x1, x2⟩ := q7 a ha
      refine ⟨x1, fun y => ?_⟩
      have n1 := u5 a ha
      rw [bow, if_neg (by omega)]
      exact x2 y
    · rw [a130]
      rw [z] at hf
      exact q8 f hf
/-- a level is left -/
theorem PI_lvl (hP : PI ow g (g 0 5)) (hk : 0 < g 0 5) : PI ow (rf_lvl g (g 0 5 - 1)) (g 0 5 - 1) ∧ pi_un (rf_lvl g (g 0 5 - 1)) (g 148 (g 0 5).toNat) ∧ (∀ i : Nat, 1 ≤ i → (i : Int) ≤ g 0 5 - 1 → g 148 i < g 148 (g 0 5).toNat) ∧ ∀ i : Nat, (i : Int) ≤ g 0 5 - 1 → g 149 i < g 148 (g 0 5).toNat ∧ g 150 i < g 148 (g 0 5).toNat := by
  obtain ⟨⟨p1, p2, p3, p4, p5, p6⟩, q1, q2, q3, q4, q5, q6, q7, q8⟩ := hP
  refine ⟨⟨⟨p1, p2, p3, p4, p5, ?_⟩, fun i hi => q1 i (by omega), fun i hi => q2 i ?_, fun i i1 hi => q3 i i1 ?_, fun i j ij hj => q4 i j ij ?_, fun i j i1 ij hj => q5 i j i1 ij (by omega), q6, q7, q8⟩, q3 (g 0 5).toNat (by omega) (by omega), fun i i1 hi => (q4 i (g 0 5).toNat (by omega) (by omega)).2 i1, fun i hi => (q4 i (g 0 5).toNat (by omega) (by omega)).1⟩
  · show 0 ≤ g 0 5 - 1 ∧ g 0 5 - 1 ≤ 4
    omega
  · have h : (i : Int) ≤ g 0 5 - 1 := hi
    omega
  · have h : (i : Int) ≤ g 0 5 - 1 := hi
    omega
  · have h : (j : Int) ≤ g 0 5 - 1 := hj
    omega
/-- a level is opened over the unit u -/
theorem PI_open {u : Int} (hP : PI ow g (g 0 5)) (hu : pi_un g u) (hk : g 0 5 < 4) (hF : g 0 2 < g 0 0 + g 0 3) (ho : ∀ i : Nat, 1 ≤ i → (i : Int) ≤ g 0 5 → g 148 i < u) (hl : ∀ i : Nat, (i : Int) ≤ g 0 5 → g 149 i < u ∧ g 150 i < u) : PI ow (rf_o2 (rf_new (rf_o1 g u)) u (g 0 2)) (g 0 5) := by
  obtain ⟨⟨p1, p2, p3, p4, p5, p6⟩, q1, q2, q3, q4, q5, q6, q7, q8⟩ := hP
  obtain ⟨g', hg⟩ : ∃ g', g' = rf_o2 (rf_new (rf_o1 g u)) u (g 0 2) := ⟨_, rfl⟩
  rw [← hg]
  have z0 : g' 0 0 = g 0 0 := by rw [hg]; rfl
  have z1 : g' 0 1 = g 0 1 := by rw [hg]; rfl
  have z2 : g' 0 2 = g 0 2 + 1 := by rw [hg]; rfl
  have z3 : g' 0 3 = g 0 3 := by rw [hg]; rfl
  have z4 : g' 0 4 = g 0 4 := by rw [hg]; rfl
  have z5 : g' 0 5 = g 0 5 + 1 := by rw [hg]; rfl
  have a124 : ∀ i, g' 124 i = g 124 i := fun i => by rw [hg]; rfl
  have a125 : ∀ i, g' 125 i = g 125 i := fun i => by rw [hg]; rfl
  have a126 : ∀ i, g' 126 i = g 126 i := fun i => by rw [hg]; rfl
  have a130 : ∀ i, g' 130 i = if i = (g 0 2).toNat then 0 else g 130 i := fun i => by rw [hg]; rfl
  have a146 : ∀ i, g' 146 i = if i = (g 0 5 + 1).toNat then g 0 2 else g 146 i := fun i => by rw [hg]; rfl
  have a148 : ∀ i, g' 148 i = if i = (g 0 5 + 1).toNat then u else g 148 i := fun i => by rw [hg]; rfl
  have a147 : ∀ i, g' 147 i = g 147 i := fun i => by rw [hg]; rfl
  have a149 : ∀ i, g' 149 i = g 149 i := fun i => by rw [hg]; rfl
  have a150 : ∀ i, g' 150 i = g 150 i := fun i => by rw [hg]; rfl
  have a151 : ∀ i, g' 151 i = g 151 i := fun i => by rw [hg]; rfl
  clear hg
  have un : ∀ {w}, pi_un g w → pi_un g' w := fun {w} ⟨x1, x2, x3, x4, x5⟩ => by
    refine ⟨by rw [z0]; exact x1, by rw [a124]; exact x2, by rw [a125]; exact x3, fun v hv => by rw [a124, a125]; exact x4 v (by omega), fun a ha => by rw [a126]; exact x5 a (by omega)⟩
  refine ⟨⟨by omega, by omega, by omega, by omega, by omega, by omega⟩, fun i hi => ?_, fun i hi => ?_, fun i i1 hi => ?_, fun i j ij hj => ?_, fun i j i1 ij hj => ?_, fun v hv => ?_, fun a ha => ?_, fun f hf => ?_⟩
  · have x := q1 i hi
    unfold pi_lev at x ⊢
    simp only [a147, a149, a150, a151, a124, a125, z0, z1]
    exact x
  · rw [a146]
    by_cases c : i = (g 0 5 + 1).toNat
    · rw [if_pos c]; omega
    · rw [if_neg c]
      have := q2 i (by omega)
      omega
  · rw [a148]
    by_cases c : i = (g 0 5 + 1).toNat
    · rw [if_pos c]; exact un hu
    · rw [if_neg c]; exact un (q3 i i1 (by omega))
  · rw [a149, a150, a148, a148, if_neg (c := i = (g 0 5 + 1).toNat) (by omega)]
    by_cases c : j = (g 0 5 + 1).toNat
    · rw [if_pos c]
      exact ⟨hl i (by omega), fun i1 => ho i i1 (by omega)⟩
    · rw [if_neg c]
      exact q4 i j ij (by omega)
  · rw [a149, a150, a148, if_neg (by omega)]
    exact q5 i j i1 ij hj
  · have x := q6 v (by omega)
    unfold pi_u at x ⊢
    simp only [a124, a125, z0]
    exact x
  · rw [a126, z0]
    exact q7 a (by omega)
  · rw [a130]
    by_cases c : f = (g 0 2).toNat
    · rw [if_pos c]; decide
    · rw [if_neg c]; exact q8 f (by omega)
/-- a pair is announced -/
theorem PI_swap (hP : PI ow g (g 0 5)) (h1 : 0 ≤ g 149 (g 0 5).toNat) (h2 : g 150 (g 0 5).toNat = g 149 (g 0 5).toNat) : PI ow (rf_swap g) (g 0 5) := by
  obtain ⟨pp, q1, qR⟩ := hP
  refine ⟨pp, fun i hi => ?_, qR⟩
  obtain ⟨x1, x2, x3, x4, x5, x6⟩ := q1 i hi
  refine ⟨x1, x2, x3, x4, x5, fun y => ?_⟩
  by_cases c : i = (g 0 5).toNat
  · rw [c]
    exact ⟨h1, h2⟩
  · have y2 : (if i = (g 0 5).toNat then 1 else g 151 i) ≠ 0 := y
    rw [if_neg c] at y2
    exact x6 y2
/-- a rule is begun -/
theorem PI_rule {v p : Int} (hP : PR ow g) (hR : g 0 3 < 10) : PI ow (rf_rule g v p) (-1) := by
  obtain ⟨⟨p1, p2, p3, p4, p5⟩, q6, q7, q8⟩ := hP
  obtain ⟨g', hg⟩ : ∃ g', g' = rf_rule g v p := ⟨_, rfl⟩
  rw [← hg]
  have z0 : g' 0 0 = g 0 0 := by rw [hg]; rfl
  have z1 : g' 0 1 = g 0 1 := by rw [hg]; rfl
  have z2 : g' 0 2 = g 0 2 + 1 := by rw [hg]; rfl
  have z3 : g' 0 3 = g 0 3 + 1 := by rw [hg]; rfl
  have z4 : g' 0 4 = g 0 4 := by rw [hg]; rfl
  have z5 : g' 0 5 = 0 := by rw [hg]; rfl
  have a124 : ∀ i, g' 124 i = g 124 i := fun i => by rw [hg]; rfl
  have a125 : ∀ i, g' 125 i = g 125 i := fun i => by rw [hg]; rfl
  have a126 : ∀ i, g' 126 i = g 126 i := fun i => by rw [hg]; rfl
  have a130 : ∀ i, g' 130 i = if i = (g 0 2).toNat then 0 else g 130 i := fun i => by rw [hg]; rfl
  have a146 : ∀ i, g' 146 i = if i = 0 then g 0 2 else g 146 i := fun i => by rw [hg]; rfl
  clear hg
  refine ⟨⟨by omega, by omega, by omega, by omega, by omega, by omega⟩, fun i hi => by omega, fun i hi => ?_, fun i i1 hi => by omega, fun i j ij hj => by omega, fun i j i1 ij hj => by omega, fun w hv => ?_, fun a ha => ?_, fun f hf => ?_⟩
  · rw [a146, if_pos (by omega)]
    omega
  · have x := q6 w (by omega)
    unfold pi_u at x ⊢
    simp only [a124, a125, z0]
    exact x
  · rw [a126, z0]
    exact q7 a (by omega)
  · rw [a130]
    by_cases c : f = (g 0 2).toNat
    · rw [if_pos c]; decide
    · rw [if_neg c]; exact q8 f (by omega)
end PIL
/-! which parts are the first of a pair: the class's row 74 beside the reference's mates (to stand beside CQ) -/
/-- a turn leaves no mate due where no part is due -/
def PSx (x : ft_X) : Prop := x.2.2.1 = 0 → x.1 151 (x.1 0 5).toNat = 0
section PSS
variable {n : Int} {c : Nat → Int}
theorem PS_put (g : wk_g) (u : Int) : (rf_put g u) 151 ((rf_put g u) 0 5).toNat = 0 := by
  show (if (g 0 5).toNat = (g 0 5).toNat then (0 : Int) else g 151 (g 0 5).toNat) = 0
  rw [if_pos rfl]
theorem PS_T {x y : ft_X} (h : PSx x) (ht : ft_T n c x y) : PSx y := by
  obtain ⟨t, v, p, e, k1, k2⟩ := ht
  rcases k2 with ⟨hip, -, g1, r1, r2⟩ | ⟨nip, due, m⟩
  · rcases r2 with ⟨t40, r3⟩ | ⟨t40, g2, a2, r3, r4, r5⟩
    · rw [r3]
      exact fun q => absurd q (show (1 : Int) ≠ 0 from by decide)
    · have p1 : g1 151 (g1 0 5).toNat = 0 := by
        rcases r1 with ⟨e1, e2⟩ | ⟨e1, z, gl, e2, e3⟩ | ⟨e1, e2⟩
        · exact absurd e1 t40
        · rw [e3]; exact PS_put _ _
        · rw [e2]; exact PS_put _ _
      rw [r5]
      intro _
      by_cases cn : t = 1 ∧ so_r v = 1
      · obtain ⟨t2, v2, p2, e2, l1, l2⟩ := r3 cn
        rcases l2 with ⟨-, l3, l4⟩ | ⟨l3, v3, p3, l4, l5⟩
        · rw [l3]; exact p1
        · rw [l5]; exact p1
      · obtain ⟨l1, l2⟩ := r4 cn
        rw [l1]; exact p1
  · rcases m with ⟨m1, -, m3⟩ | ⟨m1, mp, m3⟩ | ⟨m1, -, m3⟩ | ⟨m1, ml, m3⟩
    · rw [m3]
      exact fun _ => h due
    · rw [m3]
      exact fun q => absurd q (show (1 : Int) ≠ 0 from by decide)
    · rw [m3]
      exact fun q => absurd q (show (1 : Int) ≠ 0 from by decide)
    · rw [m3]
      exact fun _ => PS_put (rf_lvl x.1 (x.1 0 5 - 1)) (x.1 148 (x.1 0 5).toNat)
theorem PS_Tr {y : ft_X} : ∀ (k : Nat) (x : ft_X), PSx x → ft_Tr n c k x y → PSx y := by
  intro k
  induction k with
  | zero => intro x h e; have e : x = y := e; rw [← e]; exact h
  | succ k ih => intro x h e; obtain ⟨z, e1, e2⟩ := e; exact ih z (PS_T h e1) e2
/-- between rules: nothing is read yet, or no mate is due -/
def PSr (g : wk_g) : Prop := g 0 0 = 0 ∨ (g 0 5 ≤ 0 ∧ g 151 (g 0 5).toNat = 0)
theorem PS_ruTr {s' : wk_g × Int} : ∀ (k : Nat) (s : wk_g × Int), PSr s.1 → ru_Tr n c k s s' → PSr s'.1 := by
  intro k
  induction k with
  | zero => intro s h e; have e : s = s' := e; rw [← e]; exact h
  | succ k ih =>
    intro s h e
    obtain ⟨z, ⟨v, p, e', v2, p2, e2', y, k1, -, -, k4, ⟨k', k5, v5, p5, k6, k8, k9⟩, k7⟩, e2⟩ := e
    refine ih z ?_ e2
    rw [k7]
    have t := PS_Tr k' (ru_x s.1 v p e2') (fun q => absurd q (show (1 : Int) ≠ 0 from by decide)) k5
    exact Or.inr ⟨k9, t k8⟩
end PSS
def sw_D (g : wk_g) (u : Nat) : Prop := 0 ≤ g 124 u ∨ ∃ i : Nat, (i : Int) ≤ g 0 5 ∧ g 151 i ≠ 0 ∧ g 149 i = (u : Int) ∧ (1 ≤ i → g 148 i < g 149 i)
def sW (g : wk_g) (h : sm_H) : Prop := ∀ u : Nat, (u : Int) < g 0 0 → (mi_a h 74 u = 1 ↔ sw_D g u)
/-- in the end -/
def sWr (g : wk_g) (h : sm_H) : Prop := ∀ u : Nat, (u : Int) < g 0 0 → (mi_a h 74 u = 1 ↔ 0 ≤ g 124 u)
/-- no mate is due at the level k -/
def swN (g : wk_g) (k : Int) : Prop := g 151 k.toNat ≠ 0 → g 149 k.toNat < 0 ∨ g 0 0 ≤ g 149 k.toNat ∨ (1 ≤ k ∧ g 149 k.toNat ≤ g 148 k.toNat)
section SWL
variable {g g' : wk_g} {h h' : sm_H} {ow : Nat → Nat} {m : Int}
theorem sW_fr (hw : sW g h) (hS : ab_Sh sx_sk h) {wr : List (Nat × Nat)} (hF : ab_Fr wr h h') (hn : ab_in wr 9472 = false) : sW g h' := fun u hu => by
  rw [me_a (k := 74) hF hS rfl hn]
  exact hw u hu
theorem sW_cg (hw : sW g h) (e0 : g' 0 0 = g 0 0 ∧ g' 0 5 = g 0 5) (e : g' 124 = g 124 ∧ g' 148 = g 148 ∧ g' 149 = g 149 ∧ g' 151 = g 151) : sW g' h := by
  unfold sW sw_D
  rw [e0.1, e0.2, e.1, e.2.1, e.2.2.1, e.2.2.2]
  exact hw
theorem sW_r (hw : sW g h) (hr : PSr g) : sWr g h := fun u hu => by
  rw [hw u hu]
  rcases hr with q | ⟨q1, q2⟩
  · omega
  · constructor
    · rintro (a | ⟨i, i1, i2, i3, i4⟩)
      · exact a
      · exfalso
        have e : i = (g 0 5).toNat := by omega
        rw [e] at i2
        exact i2 q2
    · exact Or.inl
/-- an alternative is begun where no mate is due -/
theorem sW_beg {p : Int} (hw : sW g h) (n5 : 0 ≤ g 0 5) (hn : g 151 (g 0 5).toNat ≠ 0 → g 149 (g 0 5).toNat < 0 ∨ g 0 0 ≤ g 149 (g 0 5).toNat ∨ (1 ≤ g 0 5 ∧ g 149 (g 0 5).toNat ≤ g 148 (g 0 5).toNat)) : sW (rf_beg g p) h := fun u hu => by
  have hu : (u : Int) < g 0 0 := hu
  rw [hw u hu]
  have r149 : ∀ i, (rf_beg g p) 149 i = if i = (g 0 5).toNat then -1 else g 149 i := fun _ => rfl
  have r151 : ∀ i, (rf_beg g p) 151 i = if i = (g 0 5).toNat then 0 else g 151 i := fun _ => rfl
  constructor
  · rintro (a | ⟨i, i1, i2, i3, i4⟩)
    · exact Or.inl a
    · refine Or.inr ⟨i, i1, ?_⟩
      have ci : i ≠ (g 0 5).toNat := fun c => by
        rw [← c] at hn
        have := hn i2
        have k : 1 ≤ i → g 148 i < g 149 i := i4
        omega
      rw [r149, r151, if_neg ci, if_neg ci]
      exact ⟨i2, i3, i4⟩
  · rintro (a | ⟨i, i1, i2, i3, i4⟩)
    · exact Or.inl a
    · refine Or.inr ⟨i, i1, ?_⟩
      rw [r151] at i2
      by_cases ci : i = (g 0 5).toNat
      · rw [if_pos ci] at i2; exact absurd rfl i2
      · rw [if_neg ci] at i2
        rw [r149, if_neg ci] at i3 i4
        exact ⟨i2, i3, i4⟩
/-- a unit is hung up -/
theorem sW_put {u : Int} (hw : sW g h) (hP : PI ow g (g 0 5)) (u0 : 0 ≤ u) : sW (rf_put g u) h := fun v hv => by
  obtain ⟨⟨p1, p2, p3, p4, p5, p6⟩, q1, q2, q3, q4, q5, -⟩ := hP
  have hv : (v : Int) < g 0 0 := hv
  rw [hw v hv]
  obtain ⟨k, hk⟩ : ∃ k : Nat, k = (g 0 5).toNat := ⟨_, rfl⟩
  obtain ⟨l1, l2, l3, l4, l5, l6⟩ := q1 k (by omega)
  have r124 : ∀ i, (rf_put g u) 124 i = if g 151 k ≠ 0 ∧ i = (g 149 k).toNat then u else g 124 i := fun i => by rw [hk]; rfl
  have r149 : ∀ i, (rf_put g u) 149 i = if g 151 k = 0 ∧ i = k then u else g 149 i := fun i => by rw [hk]; rfl
  have r151 : ∀ i, (rf_put g u) 151 i = if i = k then 0 else g 151 i := fun i => by rw [hk]; rfl
  constructor
  · rintro (a | ⟨i, i1, i2, i3, i4⟩)
    · refine Or.inl ?_
      rw [r124]
      split
      · exact u0
      · exact a
    · by_cases ci : i = k
      · refine Or.inl ?_
        rw [ci] at i2 i3
        rw [r124, if_pos ⟨i2, by omega⟩]
        exact u0
      · refine Or.inr ⟨i, i1, ?_⟩
        rw [r151, r149, if_neg ci, if_neg (fun z => ci z.2)]
        exact ⟨i2, i3, i4⟩
  · rintro (a | ⟨i, i1, i2, i3, i4⟩)
    · rw [r124] at a
      by_cases c : g 151 k ≠ 0 ∧ v = (g 149 k).toNat
      · have s := l6 c.1
        refine Or.inr ⟨k, by omega, c.1, by omega, fun k1 => ?_⟩
        exact (q5 k k k1 (Nat.le_refl _) (by omega)).1 s.1
      · rw [if_neg c] at a
        exact Or.inl a
    · refine Or.inr ⟨i, i1, ?_⟩
      rw [r151] at i2
      by_cases ci : i = k
      · rw [if_pos ci] at i2; exact absurd rfl i2
      · rw [if_neg ci] at i2
        rw [r149, if_neg (fun z => ci z.2)] at i3 i4
        exact ⟨i2, i3, i4⟩
/-- a unit is made -/
theorem sW_unit {s w p : Int} (hw : sW g h) (n0 : 0 ≤ g 0 0) (h149 : ∀ i : Nat, (i : Int) ≤ g 0 5 → g 149 i < g 0 0) (hr : ∀ i, mi_a h' 74 i = if i = (g 0 0).toNat then 0 else mi_a h 74 i) : sW (rf_unit g s w p) h' := fun u hu => by
  have hu : (u : Int) < g 0 0 + 1 := hu
  have r124 : ∀ i, (rf_unit g s w p) 124 i = if i = (g 0 0).toNat then -1 else g 124 i := fun _ => rfl
  rw [hr]
  by_cases c : u = (g 0 0).toNat
  · rw [if_pos c]
    constructor
    · intro q; exact absurd q (by decide)
    · rintro (a | ⟨i, i1, i2, i3, i4⟩)
      · rw [r124, if_pos c] at a; exact absurd a (by decide)
      · exfalso
        have i1 : (i : Int) ≤ g 0 5 := i1
        have i3 : g 149 i = u := i3
        have := h149 i i1
        omega
  · rw [if_neg c, hw u (by omega)]
    unfold sw_D
    rw [r124, if_neg c]
    exact Iff.rfl
/-- a level is opened over the unit just made -/
theorem sW_open {u f : Int} (hw : sW g h) (n5 : 0 ≤ g 0 5) (hu1 : g 0 0 ≤ u + 1) : sW (rf_o2 (rf_new (rf_o1 g u)) u f) h := fun v hv => by
  have hv : (v : Int) < g 0 0 := hv
  rw [hw v hv]
  have r148 : ∀ i, (rf_o2 (rf_new (rf_o1 g u)) u f) 148 i = if i = (g 0 5 + 1).toNat then u else g 148 i := fun _ => rfl
  constructor
  · rintro (a | ⟨i, i1, i2, i3, i4⟩)
    · exact Or.inl a
    · refine Or.inr ⟨i, by show (i : Int) ≤ g 0 5 + 1; omega, i2, i3, fun k1 => ?_⟩
      rw [r148, if_neg (by omega)]
      exact i4 k1
  · rintro (a | ⟨i, i1, i2, i3, i4⟩)
    · exact Or.inl a
    · have i1 : (i : Int) ≤ g 0 5 + 1 := i1
      have i3 : g 149 i = v := i3
      by_cases c : i = (g 0 5 + 1).toNat
      · exfalso
        have := i4 (by omega)
        rw [r148, if_pos c] at this
        have this : u < g 149 i := this
        omega
      · refine Or.inr ⟨i, by omega, i2, i3, fun k1 => ?_⟩
        have := i4 k1
        rw [r148, if_neg c] at this
        exact this
/-- the last item is to have a mate -/
theorem sW_swap (hw : sW g h) (hP : PI ow g (g 0 5)) (s0 : 0 ≤ g 149 (g 0 5).toNat) (z0 : g 151 (g 0 5).toNat = 0) (hr : ∀ i, mi_a h' 74 i = if i = (g 149 (g 0 5).toNat).toNat then 1 else mi_a h 74 i) : sW (rf_swap g) h' := fun u hu => by
  obtain ⟨⟨p1, p2, p3, p4, p5, p6⟩, q1, q2, q3, q4, q5, -⟩ := hP
  have hu : (u : Int) < g 0 0 := hu
  have r151 : ∀ i, (rf_swap g) 151 i = if i = (g 0 5).toNat then 1 else g 151 i := fun _ => rfl
  rw [hr]
  by_cases c : u = (g 149 (g 0 5).toNat).toNat
  · rw [if_pos c]
    refine ⟨fun _ => Or.inr ⟨(g 0 5).toNat, by show ((g 0 5).toNat : Int) ≤ g 0 5; omega, ?_, by show g 149 (g 0 5).toNat = u; omega, fun k1 => ?_⟩, fun _ => rfl⟩
    · rw [r151, if_pos rfl]; decide
    · exact (q5 (g 0 5).toNat (g 0 5).toNat k1 (Nat.le_refl _) (by omega)).1 s0
  · rw [if_neg c, hw u hu]
    constructor
    · rintro (a | ⟨i, i1, i2, i3, i4⟩)
      · exact Or.inl a
      · refine Or.inr ⟨i, i1, ?_, i3, i4⟩
        rw [r151]
        split
        · decide
        · exact i2
    · rintro (a | ⟨i, i1, i2, i3, i4⟩)
      · exact Or.inl a
      · refine Or.inr ⟨i, i1, ?_, i3, i4⟩
        rw [r151] at i2
        by_cases ci : i = (g 0 5).toNat
        · exfalso
          have i3 : g 149 i = u := i3
          rw [ci] at i3
          omega
        · rw [if_neg ci] at i2
          exact i2
/-- a level is closed -/
theorem sW_lvl (hw : sW g h) (n5 : 0 < g 0 5) (z0 : g 151 (g 0 5).toNat = 0) : sW (rf_lvl g (g 0 5 - 1)) h := fun u hu => by
  have hu : (u : Int) < g 0 0 := hu
  rw [hw u hu]
  constructor
  · rintro (a | ⟨i, i1, i2, i3, i4⟩)
    · exact Or.inl a
    · refine Or.inr ⟨i, ?_, i2, i3, i4⟩
      show (i : Int) ≤ g 0 5 - 1
      by_cases ci : i = (g 0 5).toNat
      · rw [ci] at i2; exact absurd z0 i2
      · omega
  · rintro (a | ⟨i, i1, i2, i3, i4⟩)
    · exact Or.inl a
    · have i1 : (i : Int) ≤ g 0 5 - 1 := i1
      exact Or.inr ⟨i, by omega, i2, i3, i4⟩
/-- a rule begins: nothing is due -/
theorem sW_rule {v p : Int} (hw : sW g h) (hr : PSr g) : sW (rf_lvl (rf_rule g v p) 0) h ∧ (g 0 0 = 0 ∨ g 151 0 = 0 ∨ g 0 5 < 0) := by
  have hwr := sW_r hw hr
  have e0 : ∀ i : Nat, (i : Int) ≤ 0 → i = 0 := fun i hi => by omega
  refine ⟨fun u hu => ?_, ?_⟩
  · have hu : (u : Int) < g 0 0 := hu
    rw [hwr u hu]
    constructor
    · exact Or.inl
    · rintro (a | ⟨i, i1, i2, i3, i4⟩)
      · exact a
      · have i1 : (i : Int) ≤ 0 := i1
        have i2 : g 151 i ≠ 0 := i2
        have i3 : g 149 i = u := i3
        rcases hr with q | ⟨q1, q2⟩
        · omega
        · exfalso
          have e : i = (g 0 5).toNat := by omega
          rw [e] at i2
          exact i2 q2
  · rcases hr with q | ⟨q1, q2⟩
    · exact Or.inl q
    · by_cases c : g 0 5 < 0
      · exact Or.inr (Or.inr c)
      · have : (g 0 5).toNat = 0 := by omega
        rw [this] at q2
        exact Or.inr (Or.inl q2)
end SWL
/-! the class's rows beside the reference's; f: the class's number of a form -/
def cq_v (f : Int → Int) (g : wk_g) (u : Nat) : Int := if g 119 u = 9 then g 120 u + 65 else if g 119 u = 10 then f (g 120 u) else g 120 u
def cq_n (ow : Nat → Nat) (g : wk_g) (u : Nat) : Int := if 0 ≤ g 124 u then g 124 u else g 125 (ow u)
def FI (f : Int → Int) (g : wk_g) : Prop := (∀ r : Nat, (r : Int) < g 0 3 → (0 ≤ g 114 r ∧ g 114 r < g 0 2) ∧ f (g 114 r) = r) ∧ (∀ x, g 0 2 ≤ x → f x = 10 + x - g 0 3) ∧ (∀ x y, 0 ≤ x → x < g 0 2 → 0 ≤ y → y < g 0 2 → f x = f y → x = y) ∧ (∀ x, 0 ≤ x → x < g 0 2 → 0 ≤ f x ∧ f x < 10 + g 0 2 - g 0 3 ∧ (f x < g 0 3 ∨ 10 ≤ f x))
def CQ (f : Int → Int) (ow : Nat → Nat) (g : wk_g) (h : sm_H) : Prop :=
  (mi_f h 7690 = g 0 0 ∧ mi_f h 7686 = g 0 1 ∧ mi_f h 7680 = g 0 3 ∧ mi_f h 7698 = g 0 4 ∧ mi_f h 7685 = g 0 2 - g 0 3) ∧
  (∀ r : Nat, (r : Int) < g 0 3 → mi_a h 62 r = g 113 r) ∧
  (∀ v : Nat, v < 26 → 0 ≤ g 115 v → g 115 v < g 0 3 ∧ mi_a h 61 (g 115 v).toNat = v + 65) ∧
  (∀ r : Nat, (r : Int) < g 0 3 → ∃ v : Nat, v < 26 ∧ mi_a h 61 r = v + 65 ∧ g 115 v = r) ∧
  (∀ x : Nat, (x : Int) < g 0 2 → mi_a h 63 (f x).toNat = g 129 x ∧ mi_a h 64 (f x).toNat = g 130 x) ∧
  (∀ j : Nat, j < 70 → (∀ x : Nat, (x : Int) < g 0 2 → f x ≠ j) → mi_a h 63 j = -1 ∧ mi_a h 64 j = 0) ∧
  (∀ a : Nat, (a : Int) < g 0 1 → mi_a h 65 a = g 126 a ∧ mi_a h 66 a = g 128 a ∧ (g 127 a ≠ 0 → mi_a h 67 a = g 127 a)) ∧
  (∀ u : Nat, (u : Int) < g 0 0 → mi_a h 68 u = g 119 u ∧ mi_a h 69 u = cq_v f g u ∧ mi_a h 70 u = g 121 u ∧ mi_a h 71 u = cq_n ow g u ∧ mi_a h 72 u = (if g 122 u = 0 then 0 else g 122 u + 4) ∧ (g 122 u ≠ 0 → mi_a h 73 u = g 123 u)) ∧
  (∀ l : Nat, (l : Int) < g 0 4 → mi_a h 75 l = g 117 l) ∧
  (∀ u : Nat, (u : Int) < g 0 0 → (g 119 u = 10 → 0 ≤ g 120 u ∧ g 120 u < g 0 2) ∧ (g 119 u = 9 → 0 ≤ g 120 u ∧ g 120 u < 26)) ∧ sW g h
theorem CQ_w {f : Int → Int} {ow : Nat → Nat} {g : wk_g} {h : sm_H} (hq : CQ f ow g h) : sW g h := by
  obtain ⟨-, -, -, -, -, -, -, -, -, -, w⟩ := hq
  exact w
section CQL
variable {f : Int → Int} {ow : Nat → Nat} {g : wk_g} {h h' : sm_H} {m : Int}
theorem CQ_fr (hq : CQ f ow g h) (hS : ab_Sh sx_sk h) {wr : List (Nat × Nat)} (hF : ab_Fr wr h h') (hw : (ab_in wr 7680 || ab_in wr 7685 || ab_in wr 7686 || ab_in wr 7690 || ab_in wr 7698 || [61, 62, 63, 64, 65, 66, 67, 68, 69, 70, 71, 72, 73, 74, 75].any (fun r => ab_in wr (r * 128))) = false) : CQ f ow g h' := by
  simp only [Bool.or_eq_false_iff] at hw
  obtain ⟨⟨⟨⟨⟨w0, w1⟩, w2⟩, w3⟩, w4⟩, w5⟩ := hw
  have a : ∀ r, r ∈ [61, 62, 63, 64, 65, 66, 67, 68, 69, 70, 71, 72, 73, 74, 75] → ∀ i, mi_a h' r i = mi_a h r i := fun r hr i => by
    have n := List.any_eq_false.mp w5 r hr
    have all : [61, 62, 63, 64, 65, 66, 67, 68, 69, 70, 71, 72, 73, 74, 75].all (fun r => mx_isA sx_sk r || mx_isB sx_sk r) = true := by decide
    exact me_a hF hS (List.all_eq_true.mp all r hr) (by simpa using n)
  have a61 := a 61 (by decide)
  have a62 := a 62 (by decide)
  have a63 := a 63 (by decide)
  have a64 := a 64 (by decide)
  have a65 := a 65 (by decide)
  have a66 := a 66 (by decide)
  have a67 := a 67 (by decide)
  have a68 := a 68 (by decide)
  have a69 := a 69 (by decide)
  have a70 := a 70 (by decide)
  have a71 := a 71 (by decide)
  have a72 := a 72 (by decide)
  have a73 := a 73 (by decide)
  have a74 := a 74 (by decide)
  have a75 := a 75 (by decide)
  have f0 : mi_f h' 7680 = mi_f h 7680 := me_f (c := 7680) hF hS rfl w0
  have f1 : mi_f h' 7685 = mi_f h 7685 := me_f (c := 7685) hF hS rfl w1
  have f2 : mi_f h' 7686 = mi_f h 7686 := me_f (c := 7686) hF hS rfl w2
  have f3 : mi_f h' 7690 = mi_f h 7690 := me_f (c := 7690) hF hS rfl w3
  have f4 : mi_f h' 7698 = mi_f h 7698 := me_f (c := 7698) hF hS rfl w4
  unfold CQ sW at hq ⊢
  simp only [a61, a62, a63, a64, a65, a66, a67, a68, a69, a70, a71, a72, a73, a74, a75, f0, f1, f2, f3, f4]
  exact hq
/-- an alternative is begun -/
theorem CQ_beg {p zb zp : Int} (hq : CQ f ow g h) (hS : ab_Sh sx_sk h) (hP : PI ow g m) (hf : FI f g) (hF : ab_Fr ga_W h h') (hR : ga_R h h' (f (g 146 (g 0 5).toNat)) zb zp) (hb : zb = if g 130 (g 146 (g 0 5).toNat).toNat = 0 then -1 else g 147 (g 0 5).toNat) (h147 : g 130 (g 146 (g 0 5).toNat).toNat ≠ 0 → 0 ≤ g 147 (g 0 5).toNat) (hp : p ≠ 0 → zp = p) (hn : swN g (g 0 5)) : CQ f ow (rf_beg g p) h' := by
  obtain ⟨⟨p1, p2, p3, p4, p5, p6⟩, q1, q2, q3, q4, q5, q6, q7, q8⟩ := hP
  obtain ⟨⟨c0, c1, c2, c3, c4⟩, d1, d2, d3, d4, d5, d6, d7, d8, d9, dw⟩ := hq
  obtain ⟨r1, r2, r3, r4, r5, r6⟩ := hR
  obtain ⟨F1, F2, F3, F4⟩ := hf
  obtain ⟨x, hx⟩ : ∃ x, x = g 146 (g 0 5).toNat := ⟨_, rfl⟩
  have x01 := q2 (g 0 5).toNat (by omega)
  rw [← hx] at r2 r3 hb h147 x01
  have fx := F4 x x01.1 x01.2
  have b130 : ∀ i, rf_beg g p 130 i = if i = x.toNat then g 130 i + 1 else g 130 i := fun i => by rw [hx]; rfl
  have b129 : ∀ i, rf_beg g p 129 i = if g 130 x.toNat = 0 ∧ i = x.toNat then g 0 1 else g 129 i := fun i => by rw [hx]; rfl
  have b128 : ∀ i, rf_beg g p 128 i = if g 130 x.toNat ≠ 0 ∧ i = (g 147 (g 0 5).toNat).toNat then g 0 1 else if i = (g 0 1).toNat then -1 else g 128 i := fun i => by rw [hx]; rfl
  have b127 : ∀ i, rf_beg g p 127 i = if i = (g 0 1).toNat then p else g 127 i := fun i => rfl
  have b126 : ∀ i, rf_beg g p 126 i = if i = (g 0 1).toNat then -1 else g 126 i := fun i => rfl
  have ez : zb = -1 ↔ g 130 x.toNat = 0 := by
    by_cases c : g 130 x.toNat = 0
    · rw [if_pos c] at hb
      exact ⟨fun _ => c, fun _ => hb⟩
    · rw [if_neg c] at hb
      have := h147 c
      exact ⟨fun y => by omega, fun y => absurd y c⟩
  refine ⟨⟨?_, ?_, ?_, ?_, ?_⟩, fun r hr => ?_, fun v v1 v2 => ?_, fun r hr => ?_, fun y hy => ?_, fun j j1 j2 => ?_, fun a ha => ?_, fun u hu => ?_, fun l hl => ?_, d9, sW_fr (sW_beg dw (by omega) hn) hS hF rfl⟩
  · exact (me_f (c := 7690) hF hS rfl rfl).trans c0
  · rw [r1, c1]; rfl
  · exact (me_f (c := 7680) hF hS rfl rfl).trans c2
  · exact (me_f (c := 7698) hF hS rfl rfl).trans c3
  · exact (me_f (c := 7685) hF hS rfl rfl).trans c4
  · rw [me_a (k := 62) hF hS rfl rfl]; exact d1 r hr
  · rw [me_a (k := 61) hF hS rfl rfl]; exact d2 v v1 v2
  · rw [me_a (k := 61) hF hS rfl rfl]; exact d3 r hr
  · have hy : (y : Int) < g 0 2 := hy
    have fy := F4 y (by omega) hy
    have key : (f y).toNat = (f x).toNat ↔ y = x.toNat := ⟨fun e => by
      have := F3 y x (by omega) hy x01.1 x01.2 (by omega)
      omega, fun e => by rw [e, Int.toNat_of_nonneg x01.1]⟩
    obtain ⟨u1, u2⟩ := d4 y hy
    rw [r2, r3, b129, b130]
    by_cases c : y = x.toNat
    · have ke := key.mpr c
      refine ⟨?_, ?_⟩
      · by_cases cz : zb = -1
        · rw [if_pos ⟨cz, ke⟩, if_pos ⟨ez.mp cz, c⟩, c1]
        · rw [if_neg (fun t => cz t.1), if_neg (fun t => cz (ez.mpr t.1)), u1]
      · rw [if_pos ke, if_pos c, u2]
    · have ke : ¬ (f y).toNat = (f x).toNat := fun t => c (key.mp t)
      rw [if_neg (fun t => ke t.2), if_neg ke, if_neg (fun t => c t.2), if_neg c]
      exact ⟨u1, u2⟩
  · have j2 : ∀ y : Nat, (y : Int) < g 0 2 → f y ≠ j := j2
    have n := j2 x.toNat (by omega)
    rw [Int.toNat_of_nonneg x01.1] at n
    rw [r2, r3, if_neg (fun t => by omega), if_neg (by omega)]
    exact d5 j j1 j2
  · have ha : (a : Int) < g 0 1 + 1 := ha
    rw [r4, r5, r6, b126, b127, b128, c1]
    by_cases c : a = (g 0 1).toNat
    · rw [if_pos c, if_pos c, if_pos c, if_pos c, if_pos c, if_pos c]
      refine ⟨rfl, ?_, hp⟩
      by_cases cz : zb = -1
      · rw [if_neg (fun t => t.1 cz), if_neg (fun t => t.1 (ez.mp cz))]
      · have cz' : g 130 x.toNat ≠ 0 := fun t => cz (ez.mpr t)
        rw [if_neg cz'] at hb
        rw [hb]
        by_cases ci : a = (g 147 (g 0 5).toNat).toNat
        · rw [if_pos ⟨by rw [← hb]; exact cz, ci⟩, if_pos ⟨cz', ci⟩]
        · rw [if_neg (fun t => ci t.2), if_neg (fun t => ci t.2)]
    · rw [if_neg c, if_neg c, if_neg c, if_neg c, if_neg c, if_neg c]
      obtain ⟨u1, u2, u3⟩ := d6 a (by omega)
      refine ⟨u1, ?_, u3⟩
      by_cases cz : zb = -1
      · rw [if_neg (fun t => t.1 cz), if_neg (fun t => t.1 (ez.mp cz))]
        exact u2
      · have cz' : g 130 x.toNat ≠ 0 := fun t => cz (ez.mpr t)
        rw [if_neg cz'] at hb
        rw [hb]
        by_cases ci : a = (g 147 (g 0 5).toNat).toNat
        · rw [if_pos ⟨by rw [← hb]; exact cz, ci⟩, if_pos ⟨cz', ci⟩]
        · rw [if_neg (fun t => ci t.2), if_neg (fun t => ci t.2)]
          exact u2
  · rw [me_a (k := 68) hF hS rfl rfl, me_a (k := 69) hF hS rfl rfl, me_a (k := 70) hF hS rfl rfl, me_a (k := 71) hF hS rfl rfl, me_a (k := 72) hF hS rfl rfl, me_a (k := 73) hF hS rfl rfl]
    exact d7 u hu
  · rw [me_a (k := 75) hF hS rfl rfl]; exact d8 l hl
/-- a unit is hung up -/
theorem CQ_put {u : Int} (hq : CQ f ow g h) (hS : ab_Sh sx_sk h) (hP : PI ow g (g 0 5)) (hu : pi_un g u) (hF : ab_Fr [(8320, 8321), (9088, 9089)] h h') (r1 : ∀ i, mi_a h' 65 i = if g 150 (g 0 5).toNat = -1 ∧ i = (g 147 (g 0 5).toNat).toNat then u else mi_a h 65 i) (r2 : ∀ i, mi_a h' 71 i = if g 150 (g 0 5).toNat ≠ -1 ∧ i = (g 150 (g 0 5).toNat).toNat then u else mi_a h 71 i) : CQ f (ow_put g ow u) (rf_put g u) h' := by
  have hou := pi_uno hP hu
  have sw := sW_fr (sW_put (u := u) (CQ_w hq) hP hu.1.1) hS hF rfl
  obtain ⟨⟨p1, p2, p3, p4, p5, p6⟩, q1, q2, q3, q4, q5, q6, q7, q8⟩ := hP
  obtain ⟨⟨c0, c1, c2, c3, c4⟩, d1, d2, d3, d4, d5, d6, d7, d8, d9, dw⟩ := hq
  obtain ⟨k, hk⟩ : ∃ k, k = (g 0 5).toNat := ⟨_, rfl⟩
  rw [← hk] at r1 r2
  have a124 : ∀ i, rf_put g u 124 i = if g 151 k ≠ 0 ∧ i = (g 149 k).toNat then u else g 124 i := fun i => by rw [hk]; rfl
  have a125 : ∀ i, rf_put g u 125 i = if g 151 k = 0 ∧ 0 ≤ g 149 k ∧ i = (g 149 k).toNat then u else g 125 i := fun i => by rw [hk]; rfl
  have a126 : ∀ i, rf_put g u 126 i = if g 151 k = 0 ∧ g 149 k < 0 ∧ i = (g 147 k).toNat then u else g 126 i := fun i => by rw [hk]; rfl
  have aow : ∀ v, ow_put g ow u v = if g 151 k ≠ 0 ∧ v = u.toNat then (g 149 k).toNat else ow v := fun v => by rw [hk]; rfl
  obtain ⟨⟨u0, u1⟩, u2, u3, u4, u5⟩ := hu
  obtain ⟨l1, l2, l3, l4, l5, l6⟩ := q1 k (by omega)
  refine ⟨⟨?_, ?_, ?_, ?_, ?_⟩, fun r hr => ?_, fun v v1 v2 => ?_, fun r hr => ?_, fun y hy => ?_, fun j j1 j2 => ?_, fun a ha => ?_, fun v hv => ?_, fun l hl => ?_, d9, sw⟩
  · exact (me_f (c := 7690) hF hS rfl rfl).trans c0
  · exact (me_f (c := 7686) hF hS rfl rfl).trans c1
  · exact (me_f (c := 7680) hF hS rfl rfl).trans c2
  · exact (me_f (c := 7698) hF hS rfl rfl).trans c3
  · exact (me_f (c := 7685) hF hS rfl rfl).trans c4
  · rw [me_a (k := 62) hF hS rfl rfl]; exact d1 r hr
  · rw [me_a (k := 61) hF hS rfl rfl]; exact d2 v v1 v2
  · rw [me_a (k := 61) hF hS rfl rfl]; exact d3 r hr
  · rw [me_a (k := 63) hF hS rfl rfl, me_a (k := 64) hF hS rfl rfl]; exact d4 y hy
  · rw [me_a (k := 63) hF hS rfl rfl, me_a (k := 64) hF hS rfl rfl]; exact d5 j j1 j2
  · obtain ⟨x1, x2, x3⟩ := d6 a ha
    rw [me_a (k := 66) hF hS rfl rfl, me_a (k := 67) hF hS rfl rfl, r1, a126]
    refine ⟨?_, x2, x3⟩
    by_cases c : g 150 k = -1 ∧ a = (g 147 k).toNat
    · have l9 : g 149 k < 0 := by omega
      have s0 : g 151 k = 0 := by
        by_cases y : g 151 k = 0
        · exact y
        · have := l6 y
          omega
      rw [if_pos c, if_pos ⟨s0, l9, c.2⟩]
    · rw [if_neg c, if_neg (fun t => c ⟨by omega, t.2.2⟩)]
      exact x1
  · have hv : (v : Int) < g 0 0 := hv
    obtain ⟨x1, x2, x3, x4, x5, x6⟩ := d7 v hv
    obtain ⟨w1, w2, w3, w4, w5⟩ := q6 v hv
    rw [me_a (k := 68) hF hS rfl rfl, me_a (k := 69) hF hS rfl rfl, me_a (k := 70) hF hS rfl rfl, me_a (k := 72) hF hS rfl rfl, me_a (k := 73) hF hS rfl rfl, r2, x4]
    refine ⟨x1, x2, x3, ?_, x5, x6⟩
    unfold cq_n
    rw [a124, a125, aow]
    by_cases cs : g 151 k = 0
    · rw [if_neg (c := g 151 k ≠ 0 ∧ v = (g 149 k).toNat) (fun t => t.1 cs), if_neg (c := g 151 k ≠ 0 ∧ v = u.toNat) (fun t => t.1 cs)]
      by_cases c9 : 0 ≤ g 149 k
      · have c50 : 0 ≤ g 150 k := by omega
        obtain ⟨o1, o2, o3⟩ := l5 c50
        by_cases ci : v = (g 150 k).toNat
        · rw [if_pos ⟨by omega, ci⟩, if_neg (by rw [ci, o2]; omega), if_pos ⟨cs, c9, by rw [ci]; exact o1⟩]
        · rw [if_neg (c := g 150 k ≠ -1 ∧ v = (g 150 k).toNat) (fun t => ci t.2)]
          by_cases cm : 0 ≤ g 124 v
          · rw [if_pos cm, if_pos cm]
          · rw [if_neg cm, if_neg cm, if_neg]
            intro t
            /- v and the last unit have one owner: both are it, or the same second one -/
            have tv := t.2.2
            apply ci
            rcases w5 with w5 | ⟨w5, w6⟩
            · rw [w5] at tv
              /- v is the last item -/
              have e2 := (q6 (g 150 k).toNat (by omega)).2.2.2.2
              rcases e2 with e2 | ⟨e2, e3⟩
              · omega
              · rw [o1, ← tv] at e3
                exfalso
                omega
            · rw [tv] at w6
              have e2 := (q6 (g 150 k).toNat (by omega)).2.2.2.2
              rcases e2 with e2 | ⟨e2, e3⟩
              · rw [← o1, e2] at w6
                rw [o2] at w6
                omega
              · rw [o1, w6] at e3
                omega
      · have c50 : g 150 k < 0 := by omega
        rw [if_neg (c := g 150 k ≠ -1 ∧ v = (g 150 k).toNat) (fun t => by omega)]
        by_cases cm : 0 ≤ g 124 v
        · rw [if_pos cm, if_pos cm]
        · rw [if_neg cm, if_neg cm, if_neg (fun t => c9 t.2.1)]
    · obtain ⟨l9, l50⟩ := l6 cs
      obtain ⟨o1, o2, o3⟩ := l5 (by omega)
      rw [l50] at o1 o2 ⊢
      by_cases ci : v = (g 149 k).toNat
      · rw [if_pos ⟨by omega, ci⟩, if_pos (c := g 151 k ≠ 0 ∧ v = (g 149 k).toNat) ⟨cs, ci⟩, if_pos u0]
      · rw [if_neg (c := g 149 k ≠ -1 ∧ v = (g 149 k).toNat) (fun t => ci t.2), if_neg (c := g 151 k ≠ 0 ∧ v = (g 149 k).toNat) (fun t => ci t.2)]
        by_cases cm : 0 ≤ g 124 v
        · rw [if_pos cm, if_pos cm]
        · rw [if_neg cm, if_neg cm]
          by_cases cu : v = u.toNat
          · rw [if_pos (c := g 151 k ≠ 0 ∧ v = u.toNat) ⟨cs, cu⟩, if_neg (c := g 151 k = 0 ∧ 0 ≤ g 149 k ∧ (g 149 k).toNat = (g 149 k).toNat) (fun t => cs t.1), o3, cu, hou, u3]
          · rw [if_neg (c := g 151 k ≠ 0 ∧ v = u.toNat) (fun t => cu t.2), if_neg (c := g 151 k = 0 ∧ 0 ≤ g 149 k ∧ ow v = (g 149 k).toNat) (fun t => cs t.1)]
  · rw [me_a (k := 75) hF hS rfl rfl]; exact d8 l hl
/-- a unit is repeated -/
theorem CQ_wrap {u w p : Int} (hq : CQ f ow g h) (hS : ab_Sh sx_sk h) (hF : ab_Fr [(9216, 9217), (9344, 9345)] h h') (w0 : w ≠ 0) (r1 : ∀ i, mi_a h' 72 i = if i = u.toNat then w + 4 else mi_a h 72 i) (r2 : ∀ i, mi_a h' 73 i = if i = u.toNat then p else mi_a h 73 i) : CQ f ow (rf_wrap g u w p) h' := by
  obtain ⟨⟨c0, c1, c2, c3, c4⟩, d1, d2, d3, d4, d5, d6, d7, d8, d9, dw⟩ := hq
  have b122 : ∀ i, rf_wrap g u w p 122 i = if i = u.toNat then w else g 122 i := fun i => rfl
  have b123 : ∀ i, rf_wrap g u w p 123 i = if i = u.toNat then p else g 123 i := fun i => rfl
  refine ⟨⟨?_, ?_, ?_, ?_, ?_⟩, fun r hr => ?_, fun v v1 v2 => ?_, fun r hr => ?_, fun y hy => ?_, fun j j1 j2 => ?_, fun a ha => ?_, fun v hv => ?_, fun l hl => ?_, d9, sW_fr (sW_cg dw ⟨rfl, rfl⟩ ⟨rfl, rfl, rfl, rfl⟩) hS hF rfl⟩
  · exact (me_f (c := 7690) hF hS rfl rfl).trans c0
  · exact (me_f (c := 7686) hF hS rfl rfl).trans c1
  · exact (me_f (c := 7680) hF hS rfl rfl).trans c2
  · exact (me_f (c := 7698) hF hS rfl rfl).trans c3
  · exact (me_f (c := 7685) hF hS rfl rfl).trans c4
  · rw [me_a (k := 62) hF hS rfl rfl]; exact d1 r hr
  · rw [me_a (k := 61) hF hS rfl rfl]; exact d2 v v1 v2
  · rw [me_a (k := 61) hF hS rfl rfl]; exact d3 r hr
  · rw [me_a (k := 63) hF hS rfl rfl, me_a (k := 64) hF hS rfl rfl]; exact d4 y hy
  · rw [me_a (k := 63) hF hS rfl rfl, me_a (k := 64) hF hS rfl rfl]; exact d5 j j1 j2
  · rw [me_a (k := 65) hF hS rfl rfl, me_a (k := 66) hF hS rfl rfl, me_a (k := 67) hF hS rfl rfl]; exact d6 a ha
  · obtain ⟨x1, x2, x3, x4, x5, x6⟩ := d7 v hv
    rw [me_a (k := 68) hF hS rfl rfl, me_a (k := 69) hF hS rfl rfl, me_a (k := 70) hF hS rfl rfl, me_a (k := 71) hF hS rfl rfl, r1, r2, b122, b123]
    refine ⟨x1, x2, x3, x4, ?_, ?_⟩
    · by_cases c : v = u.toNat
      · rw [if_pos c, if_pos c, if_neg w0]
      · rw [if_neg c, if_neg c]; exact x5
    · by_cases c : v = u.toNat
      · rw [if_pos c, if_pos c, if_pos c]; exact fun _ => rfl
      · rw [if_neg c, if_neg c, if_neg c]; exact x6
  · rw [me_a (k := 75) hF hS rfl rfl]; exact d8 l hl
/-- the last item is to have a mate -/
theorem CQ_swap (hq : CQ f ow g h) (hS : ab_Sh sx_sk h) (hP : PI ow g (g 0 5)) (hF : ab_Fr [(9472, 9473)] h h') (s0 : 0 ≤ g 149 (g 0 5).toNat) (z0 : g 151 (g 0 5).toNat = 0) (r74 : ∀ i, mi_a h' 74 i = if i = (g 149 (g 0 5).toNat).toNat then 1 else mi_a h 74 i) : CQ f ow (rf_swap g) h' := by
  obtain ⟨⟨c0, c1, c2, c3, c4⟩, d1, d2, d3, d4, d5, d6, d7, d8, d9, dw⟩ := hq
  refine ⟨⟨?_, ?_, ?_, ?_, ?_⟩, fun r hr => ?_, fun v v1 v2 => ?_, fun r hr => ?_, fun y hy => ?_, fun j j1 j2 => ?_, fun a ha => ?_, fun v hv => ?_, fun l hl => ?_, d9, sW_swap dw hP s0 z0 r74⟩
  · exact (me_f (c := 7690) hF hS rfl rfl).trans c0
  · exact (me_f (c := 7686) hF hS rfl rfl).trans c1
  · exact (me_f (c := 7680) hF hS rfl rfl).trans c2
  · exact (me_f (c := 7698) hF hS rfl rfl).trans c3
  · exact (me_f (c := 7685) hF hS rfl rfl).trans c4
  · rw [me_a (k := 62) hF hS rfl rfl]; exact d1 r hr
  · rw [me_a (k := 61) hF hS rfl rfl]; exact d2 v v1 v2
  · rw [me_a (k := 61) hF hS rfl rfl]; exact d3 r hr
  · rw [me_a (k := 63) hF hS rfl rfl, me_a (k := 64) hF hS rfl rfl]; exact d4 y hy
  · rw [me_a (k := 63) hF hS rfl rfl, me_a (k := 64) hF hS rfl rfl]; exact d5 j j1 j2
  · rw [me_a (k := 65) hF hS rfl rfl, me_a (k := 66) hF hS rfl rfl, me_a (k := 67) hF hS rfl rfl]; exact d6 a ha
  · rw [me_a (k := 68) hF hS rfl rfl, me_a (k := 69) hF hS rfl rfl, me_a (k := 70) hF hS rfl rfl, me_a (k := 71) hF hS rfl rfl, me_a (k := 72) hF hS rfl rfl, me_a (k := 73) hF hS rfl rfl]; exact d7 v hv
  · rw [me_a (k := 75) hF hS rfl rfl]; exact d8 l hl
/-- a unit's word is written -/
theorem CQ_word {u w : Int} (hq : CQ f ow g h) (hS : ab_Sh sx_sk h) (hF : ab_Fr [(8832, 8833)] h h') (n9 : g 119 u.toNat ≠ 9) (n10 : g 119 u.toNat ≠ 10) (r1 : ∀ i, mi_a h' 69 i = if i = u.toNat then w else mi_a h 69 i) : CQ f ow (rf_word g u w) h' := by
  obtain ⟨⟨c0, c1, c2, c3, c4⟩, d1, d2, d3, d4, d5, d6, d7, d8, d9, dw⟩ := hq
  have b120 : ∀ i, rf_word g u w 120 i = if i = u.toNat then w else g 120 i := fun i => rfl
  refine ⟨⟨?_, ?_, ?_, ?_, ?_⟩, fun r hr => ?_, fun v v1 v2 => ?_, fun r hr => ?_, fun y hy => ?_, fun j j1 j2 => ?_, fun a ha => ?_, fun v hv => ?_, fun l hl => ?_, fun v hv => ?_, sW_fr (sW_cg dw ⟨rfl, rfl⟩ ⟨rfl, rfl, rfl, rfl⟩) hS hF rfl⟩
  · exact (me_f (c := 7690) hF hS rfl rfl).trans c0
  · exact (me_f (c := 7686) hF hS rfl rfl).trans c1
  · exact (me_f (c := 7680) hF hS rfl rfl).trans c2
  · exact (me_f (c := 7698) hF hS rfl rfl).trans c3
  · exact (me_f (c := 7685) hF hS rfl rfl).trans c4
  · rw [me_a (k := 62) hF hS rfl rfl]; exact d1 r hr
  · rw [me_a (k := 61) hF hS rfl rfl]; exact d2 v v1 v2
  · rw [me_a (k := 61) hF hS rfl rfl]; exact d3 r hr
  · rw [me_a (k := 63) hF hS rfl rfl, me_a (k := 64) hF hS rfl rfl]; exact d4 y hy
  · rw [me_a (k := 63) hF hS rfl rfl, me_a (k := 64) hF hS rfl rfl]; exact d5 j j1 j2
  · rw [me_a (k := 65) hF hS rfl rfl, me_a (k := 66) hF hS rfl rfl, me_a (k := 67) hF hS rfl rfl]; exact d6 a ha
  · obtain ⟨x1, x2, x3, x4, x5, x6⟩ := d7 v hv
    rw [me_a (k := 68) hF hS rfl rfl, me_a (k := 70) hF hS rfl rfl, me_a (k := 71) hF hS rfl rfl, me_a (k := 72) hF hS rfl rfl, me_a (k := 73) hF hS rfl rfl, r1]
    refine ⟨x1, ?_, x3, x4, x5, x6⟩
    show _ = (if g 119 v = 9 then rf_word g u w 120 v + 65 else if g 119 v = 10 then f (rf_word g u w 120 v) else rf_word g u w 120 v)
    rw [b120]
    by_cases c : v = u.toNat
    · rw [if_pos c, if_pos c, if_neg (by rw [c]; exact n9), if_neg (by rw [c]; exact n10)]
    · rw [if_neg c, if_neg c]; exact x2
  · rw [me_a (k := 75) hF hS rfl rfl]; exact d8 l hl
  · obtain ⟨x1, x2⟩ := d9 v hv
    show (g 119 v = 10 → 0 ≤ rf_word g u w 120 v ∧ rf_word g u w 120 v < g 0 2) ∧ (g 119 v = 9 → 0 ≤ rf_word g u w 120 v ∧ rf_word g u w 120 v < 26)
    rw [b120]
    by_cases c : v = u.toNat
    · exact ⟨fun y => by rw [c] at y; exact absurd y n10, fun y => by rw [c] at y; exact absurd y n9⟩
    · rw [if_neg c]; exact ⟨x1, x2⟩
end CQL
/-! the class's rows: a unit, a group, a rule -/
theorem FI_cg {f : Int → Int} {g g' : wk_g} (hf : FI f g) (e2 : g' 0 2 = g 0 2) (e3 : g' 0 3 = g 0 3) (e : ∀ i, g' 114 i = g 114 i) : FI f g' := by
  unfold FI at hf ⊢
  simp only [e2, e3, e]
  exact hf
section CQM
variable {f : Int → Int} {ow : Nat → Nat} {g gl : wk_g} {h h' : sm_H} {m s w p zv : Int}
def cu_W : List (Nat × Nat) := [(7685, 7686), (7690, 7691), (7698, 7699), (8704, 8705), (8832, 8833), (8960, 8961), (9088, 9089), (9216, 9217), (9344, 9345), (9472, 9473), (9600, 9601), (9857, 9861)]
theorem CQ_unit (hq : CQ f ow g h) (hS : ab_Sh sx_sk h) (hP : PI ow g m) (hU : g 0 0 < 60) (gr : ∀ r, r ≠ 0 → r ≠ 117 → gl r = g r) (g0 : ∀ i, i ≠ 4 → gl 0 i = g 0 i) (hF : ab_Fr cu_W h h') (n0 : mi_f h' 7685 = mi_f h 7685) (n1 : mi_f h' 7690 = mi_f h 7690 + 1) (n2 : mi_f h' 7698 = gl 0 4) (rl : ∀ l : Nat, (l : Int) < gl 0 4 → mi_a h' 75 l = gl 117 l)
    (r68 : ∀ i, mi_a h' 68 i = if i = (mi_f h 7690).toNat then s else mi_a h 68 i) (r69 : ∀ i, mi_a h' 69 i = if i = (mi_f h 7690).toNat then zv else mi_a h 69 i) (r70 : ∀ i, mi_a h' 70 i = if i = (mi_f h 7690).toNat then p else mi_a h 70 i) (r71 : ∀ i, mi_a h' 71 i = if i = (mi_f h 7690).toNat then -1 else mi_a h 71 i) (r72 : ∀ i, mi_a h' 72 i = if i = (mi_f h 7690).toNat then 0 else mi_a h 72 i) (r73 : ∀ i, i ≠ (mi_f h 7690).toNat → mi_a h' 73 i = mi_a h 73 i)
    (hv : zv = if s = 9 then w + 65 else w) (h10 : s ≠ 10) (h9 : s = 9 → 0 ≤ w ∧ w < 26) (h149 : ∀ i : Nat, (i : Int) ≤ g 0 5 → g 149 i < g 0 0) (r74 : ∀ i, mi_a h' 74 i = if i = (mi_f h 7690).toNat then 0 else mi_a h 74 i) : CQ f (ow_new g ow) (rf_unit gl s w p) h' := by
  obtain ⟨⟨p1, p2, p3, p4, p5, p6⟩, q1, q2, q3, q4, q5, q6, q7, q8⟩ := hP
  obtain ⟨⟨c0, c1, c2, c3, c4⟩, d1, d2, d3, d4, d5, d6, d7, d8, d9, dw⟩ := hq
  have sw : sW (rf_unit gl s w p) h' := by
    refine sW_unit (g := gl) (h := h) (sW_cg dw ⟨g0 0 (by decide), g0 5 (by decide)⟩ ⟨gr 124 (by decide) (by decide), gr 148 (by decide) (by decide), gr 149 (by decide) (by decide), gr 151 (by decide) (by decide)⟩) (by rw [g0 0 (by decide)]; omega) (fun i hi => ?_) (fun i => ?_)
    · rw [gr 149 (by decide) (by decide), g0 0 (by decide)]
      rw [g0 5 (by decide)] at hi
      exact h149 i hi
    · rw [r74, g0 0 (by decide), c0]
  obtain ⟨g', hg⟩ : ∃ g', g' = rf_unit gl s w p := ⟨_, rfl⟩
  rw [← hg] at sw ⊢
  have z00 := g0 0 (by decide)
  have z0 : g' 0 0 = g 0 0 + 1 := by rw [hg, ← z00]; rfl
  have z1 : g' 0 1 = g 0 1 := by rw [hg, ← g0 1 (by decide)]; rfl
  have z2 : g' 0 2 = g 0 2 := by rw [hg, ← g0 2 (by decide)]; rfl
  have z3 : g' 0 3 = g 0 3 := by rw [hg, ← g0 3 (by decide)]; rfl
  have z4 : g' 0 4 = gl 0 4 := by rw [hg]; rfl
  have b119 : ∀ i, g' 119 i = if i = (g 0 0).toNat then s else g 119 i := fun i => by rw [hg, ← z00, ← gr 119 (by decide) (by decide)]; rfl
  have b120 : ∀ i, g' 120 i = if i = (g 0 0).toNat then w else g 120 i := fun i => by rw [hg, ← z00, ← gr 120 (by decide) (by decide)]; rfl
  have b121 : ∀ i, g' 121 i = if i = (g 0 0).toNat then p else g 121 i := fun i => by rw [hg, ← z00, ← gr 121 (by decide) (by decide)]; rfl
  have b122 : ∀ i, g' 122 i = if i = (g 0 0).toNat then 0 else g 122 i := fun i => by rw [hg, ← z00, ← gr 122 (by decide) (by decide)]; rfl
  have b124 : ∀ i, g' 124 i = if i = (g 0 0).toNat then -1 else g 124 i := fun i => by rw [hg, ← z00, ← gr 124 (by decide) (by decide)]; rfl
  have b125 : ∀ i, g' 125 i = if i = (g 0 0).toNat then -1 else g 125 i := fun i => by rw [hg, ← z00, ← gr 125 (by decide) (by decide)]; rfl
  have b : ∀ r, r ∈ [113, 114, 115, 123, 126, 127, 128, 129, 130] → ∀ i, g' r i = g r i := fun r hr i => by
    simp only [List.mem_cons, List.not_mem_nil, or_false] at hr
    rw [hg]
    rcases hr with rfl | rfl | rfl | rfl | rfl | rfl | rfl | rfl | rfl <;> exact congrFun (gr _ (by decide) (by decide)) i
  have b117 : ∀ i, g' 117 i = gl 117 i := fun i => by rw [hg]; rfl
  clear hg
  have on : ∀ v : Nat, (v : Int) < g 0 0 → ow_new g ow v = ow v := fun v hv => by
    unfold ow_new
    rw [if_neg (by omega)]
  rw [c0] at r68 r69 r70 r71 r72 r73
  refine ⟨⟨by omega, ?_, ?_, by omega, by omega⟩, fun r hr => ?_, fun v v1 v2 => ?_, fun r hr => ?_, fun y hy => ?_, fun j j1 j2 => ?_, fun a ha => ?_, fun u hu => ?_, fun l hl => ?_, fun u hu => ?_, sw⟩
  · rw [me_f (c := 7686) hF hS rfl rfl, z1]; exact c1
  · rw [me_f (c := 7680) hF hS rfl rfl, z3]; exact c2
  · rw [me_a (k := 62) hF hS rfl rfl, b 113 (by decide)]; exact d1 r (by omega)
  · rw [b 115 (by decide)] at v2 ⊢
    rw [me_a (k := 61) hF hS rfl rfl, z3]; exact d2 v v1 v2
  · obtain ⟨v, v1, v2, v3⟩ := d3 r (by omega)
    exact ⟨v, v1, by rw [me_a (k := 61) hF hS rfl rfl]; exact v2, by rw [b 115 (by decide)]; exact v3⟩
  · rw [me_a (k := 63) hF hS rfl rfl, me_a (k := 64) hF hS rfl rfl, b 129 (by decide), b 130 (by decide)]; exact d4 y (by omega)
  · rw [me_a (k := 63) hF hS rfl rfl, me_a (k := 64) hF hS rfl rfl]; exact d5 j j1 (fun x hx => j2 x (by omega))
  · rw [me_a (k := 65) hF hS rfl rfl, me_a (k := 66) hF hS rfl rfl, me_a (k := 67) hF hS rfl rfl, b 126 (by decide), b 127 (by decide), b 128 (by decide)]; exact d6 a (by omega)
  · have eo : u = (g 0 0).toNat → ow_new g ow u = (g 0 0).toNat := fun c => by
      unfold ow_new
      rw [if_pos c]
    by_cases c : u = (g 0 0).toNat
    · refine ⟨?_, ?_, ?_, ?_, ?_, ?_⟩
      · rw [r68, b119, if_pos c, if_pos c]
      · rw [r69, if_pos c]
        unfold cq_v
        rw [b119, b120, if_pos c, if_pos c]
        rw [if_neg (c := s = 10) h10]
        exact hv
      · rw [r70, b121, if_pos c, if_pos c]
      · rw [r71, if_pos c]
        unfold cq_n
        rw [b124, if_pos c, if_neg (by decide), eo c, b125, if_pos rfl]
      · rw [r72, b122, if_pos c, if_pos c, if_pos rfl]
      · intro x
        rw [b122, if_pos c] at x
        exact absurd rfl x
    · obtain ⟨x1, x2, x3, x4, x5, x6⟩ := d7 u (by omega)
      have lt : (ow u : Int) < g 0 0 := by
        rcases (q6 u (by omega)).2.2.2.2 with y | y
        · omega
        · exact y.1
      refine ⟨?_, ?_, ?_, ?_, ?_, ?_⟩
      · rw [r68, b119, if_neg c, if_neg c]; exact x1
      · rw [r69, if_neg c, x2]
        unfold cq_v
        rw [b119, b120, if_neg c, if_neg c]
      · rw [r70, b121, if_neg c, if_neg c]; exact x3
      · rw [r71, if_neg c, x4]
        unfold cq_n
        rw [b124, if_neg c, on u (by omega), b125, if_neg (c := ow u = (g 0 0).toNat) (by omega)]
      · rw [r72, b122, if_neg c, if_neg c]; exact x5
      · rw [r73 u c, b122, if_neg c, b 123 (by decide)]; exact x6
  · rw [b117]; exact rl l (by omega)
  · rw [b119, b120, z2]
    by_cases c : u = (g 0 0).toNat
    · rw [if_pos c, if_pos c]; exact ⟨fun x => absurd x h10, h9⟩
    · rw [if_neg c, if_neg c]; exact d9 u (by omega)
/-- a group is opened -/
theorem CQ_open (hq : CQ f ow g h) (hS : ab_Sh sx_sk h) (hP : PI ow g m) (hf : FI f g) (hU : g 0 0 < 60) (hF : ab_Fr cu_W h h') (n0 : mi_f h' 7685 = mi_f h 7685 + 1) (n1 : mi_f h' 7690 = mi_f h 7690 + 1) (n2 : mi_f h' 7698 = mi_f h 7698) (rl : ∀ i, mi_a h' 75 i = mi_a h 75 i)
    (r68 : ∀ i, mi_a h' 68 i = if i = (mi_f h 7690).toNat then 10 else mi_a h 68 i) (r69 : ∀ i, mi_a h' 69 i = if i = (mi_f h 7690).toNat then f (g 0 2) else mi_a h 69 i) (r70 : ∀ i, mi_a h' 70 i = if i = (mi_f h 7690).toNat then p else mi_a h 70 i) (r71 : ∀ i, mi_a h' 71 i = if i = (mi_f h 7690).toNat then -1 else mi_a h 71 i) (r72 : ∀ i, mi_a h' 72 i = if i = (mi_f h 7690).toNat then 0 else mi_a h 72 i) (r73 : ∀ i, i ≠ (mi_f h 7690).toNat → mi_a h' 73 i = mi_a h 73 i) (h149 : ∀ i : Nat, (i : Int) ≤ g 0 5 → g 149 i < g 0 0) (r74 : ∀ i, mi_a h' 74 i = if i = (mi_f h 7690).toNat then 0 else mi_a h 74 i) : CQ f (ow_new g ow) (rf_o2 (rf_new (rf_o1 (rf_unit g 10 0 p) (g 0 0))) (g 0 0) (g 0 2)) h' ∧ FI f (rf_o2 (rf_new (rf_o1 (rf_unit g 10 0 p) (g 0 0))) (g 0 0) (g 0 2)) := by
  obtain ⟨⟨p1, p2, p3, p4, p5, p6⟩, q1, q2, q3, q4, q5, q6, q7, q8⟩ := hP
  obtain ⟨⟨c0, c1, c2, c3, c4⟩, d1, d2, d3, d4, d5, d6, d7, d8, d9, dw⟩ := hq
  obtain ⟨F1, F2, F3, F4⟩ := hf
  have fF := F2 (g 0 2) (Int.le_refl _)
  have sw : sW (rf_o2 (rf_new (rf_o1 (rf_unit g 10 0 p) (g 0 0))) (g 0 0) (g 0 2)) h' := sW_open (g := rf_unit g 10 0 p) (sW_unit dw p1.1 h149 (fun i => by rw [r74, c0])) p6.1 (Int.le_refl _)
  obtain ⟨g', hg⟩ : ∃ g', g' = rf_o2 (rf_new (rf_o1 (rf_unit g 10 0 p) (g 0 0))) (g 0 0) (g 0 2) := ⟨_, rfl⟩
  rw [← hg] at sw ⊢
  have z0 : g' 0 0 = g 0 0 + 1 := by rw [hg]; rfl
  have z1 : g' 0 1 = g 0 1 := by rw [hg]; rfl
  have z2 : g' 0 2 = g 0 2 + 1 := by rw [hg]; rfl
  have z3 : g' 0 3 = g 0 3 := by rw [hg]; rfl
  have z4 : g' 0 4 = g 0 4 := by rw [hg]; rfl
  have b119 : ∀ i, g' 119 i = if i = (g 0 0).toNat then 10 else g 119 i := fun i => by rw [hg]; rfl
  have b120 : ∀ i, g' 120 i = if i = (g 0 0).toNat then g 0 2 else g 120 i := fun i => by
    rw [hg]
    show (if i = (g 0 0).toNat then g 0 2 else if i = (g 0 0).toNat then 0 else g 120 i) = _
    by_cases c : i = (g 0 0).toNat
    · rw [if_pos c, if_pos c]
    · rw [if_neg c, if_neg c, if_neg c]
  have b121 : ∀ i, g' 121 i = if i = (g 0 0).toNat then p else g 121 i := fun i => by rw [hg]; rfl
  have b122 : ∀ i, g' 122 i = if i = (g 0 0).toNat then 0 else g 122 i := fun i => by rw [hg]; rfl
  have b124 : ∀ i, g' 124 i = if i = (g 0 0).toNat then -1 else g 124 i := fun i => by rw [hg]; rfl
  have b125 : ∀ i, g' 125 i = if i = (g 0 0).toNat then -1 else g 125 i := fun i => by rw [hg]; rfl
  have b129 : ∀ i, g' 129 i = if i = (g 0 2).toNat then -1 else g 129 i := fun i => by rw [hg]; rfl
  have b130 : ∀ i, g' 130 i = if i = (g 0 2).toNat then 0 else g 130 i := fun i => by rw [hg]; rfl
  have b : ∀ r, r ∈ [113, 114, 115, 117, 123, 126, 127, 128] → ∀ i, g' r i = g r i := fun r hr i => by
    simp only [List.mem_cons, List.not_mem_nil, or_false] at hr
    rw [hg]
    rcases hr with rfl | rfl | rfl | rfl | rfl | rfl | rfl | rfl <;> rfl
  clear hg
  have on : ∀ v : Nat, (v : Int) < g 0 0 → ow_new g ow v = ow v := fun v hv => by
    unfold ow_new
    rw [if_neg (by omega)]
  rw [c0] at r68 r69 r70 r71 r72 r73
  refine ⟨⟨⟨by omega, ?_, ?_, by omega, by omega⟩, fun r hr => ?_, fun v v1 v2 => ?_, fun r hr => ?_, fun y hy => ?_, fun j j1 j2 => ?_, fun a ha => ?_, fun u hu => ?_, fun l hl => ?_, fun u hu => ?_, sw⟩, ⟨fun r hr => ?_, fun x hx => ?_, fun x y x0 x1 y0 y1 e => ?_, fun x x0 x1 => ?_⟩⟩
  · rw [me_f (c := 7686) hF hS rfl rfl, z1]; exact c1
  · rw [me_f (c := 7680) hF hS rfl rfl, z3]; exact c2
  · rw [me_a (k := 62) hF hS rfl rfl, b 113 (by decide)]; exact d1 r (by omega)
  · rw [b 115 (by decide)] at v2 ⊢
    rw [me_a (k := 61) hF hS rfl rfl, z3]; exact d2 v v1 v2
  · obtain ⟨v, v1, v2, v3⟩ := d3 r (by omega)
    exact ⟨v, v1, by rw [me_a (k := 61) hF hS rfl rfl]; exact v2, by rw [b 115 (by decide)]; exact v3⟩
  · rw [me_a (k := 63) hF hS rfl rfl, me_a (k := 64) hF hS rfl rfl, b129, b130]
    by_cases c : y = (g 0 2).toNat
    · have e : (y : Int) = g 0 2 := by omega
      rw [if_pos c, if_pos c, e, fF]
      refine d5 _ (by omega) (fun x hx => ?_)
      have := F4 x (by omega) hx
      omega
    · rw [if_neg c, if_neg c]
      exact d4 y (by omega)
  · rw [me_a (k := 63) hF hS rfl rfl, me_a (k := 64) hF hS rfl rfl]; exact d5 j j1 (fun x hx => j2 x (by omega))
  · rw [me_a (k := 65) hF hS rfl rfl, me_a (k := 66) hF hS rfl rfl, me_a (k := 67) hF hS rfl rfl, b 126 (by decide), b 127 (by decide), b 128 (by decide)]; exact d6 a (by omega)
  · have eo : u = (g 0 0).toNat → ow_new g ow u = (g 0 0).toNat := fun c => by
      unfold ow_new
      rw [if_pos c]
    by_cases c : u = (g 0 0).toNat
    · refine ⟨?_, ?_, ?_, ?_, ?_, ?_⟩
      · rw [r68, b119, if_pos c, if_pos c]
      · rw [r69, if_pos c]
        unfold cq_v
        rw [b119, b120, if_pos c, if_pos c]
        rw [if_neg (by decide), if_pos rfl]
      · rw [r70, b121, if_pos c, if_pos c]
      · rw [r71, if_pos c]
        unfold cq_n
        rw [b124, if_pos c, if_neg (by decide), eo c, b125, if_pos rfl]
      · rw [r72, b122, if_pos c, if_pos c, if_pos rfl]
      · intro x
        rw [b122, if_pos c] at x
        exact absurd rfl x
    · obtain ⟨x1, x2, x3, x4, x5, x6⟩ := d7 u (by omega)
      have lt : (ow u : Int) < g 0 0 := by
        rcases (q6 u (by omega)).2.2.2.2 with y | y
        · omega
        · exact y.1
      refine ⟨?_, ?_, ?_, ?_, ?_, ?_⟩
      · rw [r68, b119, if_neg c, if_neg c]; exact x1
      · rw [r69, if_neg c, x2]
        unfold cq_v
        rw [b119, b120, if_neg c, if_neg c]
      · rw [r70, b121, if_neg c, if_neg c]; exact x3
      · rw [r71, if_neg c, x4]
        unfold cq_n
        rw [b124, if_neg c, on u (by omega), b125, if_neg (c := ow u = (g 0 0).toNat) (by omega)]
      · rw [r72, b122, if_neg c, if_neg c]; exact x5
      · rw [r73 u c, b122, if_neg c, b 123 (by decide)]; exact x6
  · rw [b 117 (by decide), rl]; exact d8 l (by omega)
  · rw [b119, b120, z2]
    by_cases c : u = (g 0 0).toNat
    · rw [if_pos c, if_pos c]; exact ⟨fun x => by omega, fun x => absurd x (by decide)⟩
    · rw [if_neg c, if_neg c]
      have := d9 u (by omega)
      exact ⟨fun x => by have := this.1 x; omega, this.2⟩
  · rw [b 114 (by decide), z2]
    have := F1 r (by omega)
    exact ⟨by omega, this.2⟩
  · rw [z3]; exact F2 x (by omega)
  · by_cases cx : x = g 0 2
    · by_cases cy : y = g 0 2
      · omega
      · have := F4 y y0 (by omega)
        rw [cx, fF] at e
        omega
    · have fx := F4 x x0 (by omega)
      by_cases cy : y = g 0 2
      · rw [cy, fF] at e
        omega
      · exact F3 x y x0 (by omega) y0 (by omega) e
  · rw [z2, z3]
    by_cases cx : x = g 0 2
    · rw [cx, fF]; omega
    · have := F4 x x0 (by omega)
      omega
def fi_rule (f : Int → Int) (g : wk_g) : Int → Int := fun x => if x = g 0 2 then g 0 3 else if g 0 2 < x then 10 + x - (g 0 3 + 1) else f x
/-- a rule is begun -/
theorem CQ_rule {v : Int} (hq : CQ f ow g h) (hps : PSr g) (hS : ab_Sh sx_sk h) (hP : PR ow g) (hf : FI f g) (v0 : 0 ≤ v) (v1 : v < 26) (hn : g 115 v.toNat < 0) (hR : g 0 3 < 10) (hF : ab_Fr [(7680, 7681), (7808, 7809), (7936, 7937)] h h') (n0 : mi_f h' 7680 = mi_f h 7680 + 1) (r61 : ∀ i, mi_a h' 61 i = if i = (mi_f h 7680).toNat then v + 65 else mi_a h 61 i) (r62 : ∀ i, mi_a h' 62 i = if i = (mi_f h 7680).toNat then p else mi_a h 62 i) : CQ (fi_rule f g) ow (rf_rule g v p) h' ∧ FI (fi_rule f g) (rf_rule g v p) ∧ fi_rule f g (g 0 2) = g 0 3 := by
  obtain ⟨⟨p1, p2, p3, p4, p5⟩, q6, q7, q8⟩ := hP
  obtain ⟨⟨c0, c1, c2, c3, c4⟩, d1, d2, d3, d4, d5, d6, d7, d8, d9, dw⟩ := hq
  obtain ⟨F1, F2, F3, F4⟩ := hf
  have sw : sW (rf_rule g v p) h' := sW_fr (sW_cg (sW_rule (v := v) (p := p) dw hps).1 ⟨rfl, rfl⟩ ⟨rfl, rfl, rfl, rfl⟩) hS hF rfl
  obtain ⟨g', hg⟩ : ∃ g', g' = rf_rule g v p := ⟨_, rfl⟩
  rw [← hg] at sw ⊢
  have z0 : g' 0 0 = g 0 0 := by rw [hg]; rfl
  have z1 : g' 0 1 = g 0 1 := by rw [hg]; rfl
  have z2 : g' 0 2 = g 0 2 + 1 := by rw [hg]; rfl
  have z3 : g' 0 3 = g 0 3 + 1 := by rw [hg]; rfl
  have z4 : g' 0 4 = g 0 4 := by rw [hg]; rfl
  have b113 : ∀ i, g' 113 i = if i = (g 0 3).toNat then p else g 113 i := fun i => by rw [hg]; rfl
  have b114 : ∀ i, g' 114 i = if i = (g 0 3).toNat then g 0 2 else g 114 i := fun i => by rw [hg]; rfl
  have b115 : ∀ i, g' 115 i = if i = v.toNat then g 0 3 else g 115 i := fun i => by rw [hg]; rfl
  have b129 : ∀ i, g' 129 i = if i = (g 0 2).toNat then -1 else g 129 i := fun i => by rw [hg]; rfl
  have b130 : ∀ i, g' 130 i = if i = (g 0 2).toNat then 0 else g 130 i := fun i => by rw [hg]; rfl
  have b : ∀ r, r ∈ [117, 119, 120, 121, 122, 123, 124, 125, 126, 127, 128] → ∀ i, g' r i = g r i := fun r hr i => by
    simp only [List.mem_cons, List.not_mem_nil, or_false] at hr
    rw [hg]
    rcases hr with rfl | rfl | rfl | rfl | rfl | rfl | rfl | rfl | rfl | rfl | rfl <;> rfl
  clear hg
  have fo : ∀ x, x < g 0 2 → fi_rule f g x = f x := fun x hx => by
    unfold fi_rule
    rw [if_neg (by omega), if_neg (by omega)]
  have fn : fi_rule f g (g 0 2) = g 0 3 := by
    unfold fi_rule
    rw [if_pos rfl]
  have fg : ∀ x, g 0 2 < x → fi_rule f g x = 10 + x - (g 0 3 + 1) := fun x hx => by
    unfold fi_rule
    rw [if_neg (by omega), if_pos hx]
  rw [c2] at r61 r62
  refine ⟨⟨⟨?_, ?_, by omega, ?_, ?_⟩, fun r hr => ?_, fun y y1 y2 => ?_, fun r hr => ?_, fun y hy => ?_, fun j j1 j2 => ?_, fun a ha => ?_, fun u hu => ?_, fun l hl => ?_, fun u hu => ?_, sw⟩, ⟨fun r hr => ?_, fun x hx => ?_, fun x y x0 x1 y0 y1 e => ?_, fun x x0 x1 => ?_⟩, fn⟩
  · rw [me_f (c := 7690) hF hS rfl rfl, z0]; exact c0
  · rw [me_f (c := 7686) hF hS rfl rfl, z1]; exact c1
  · rw [me_f (c := 7698) hF hS rfl rfl, z4]; exact c3
  · rw [me_f (c := 7685) hF hS rfl rfl, z2, z3]; omega
  · rw [r62, b113]
    by_cases c : r = (g 0 3).toNat
    · rw [if_pos c, if_pos c]
    · rw [if_neg c, if_neg c]; exact d1 r (by omega)
  · rw [b115] at y2 ⊢
    rw [r61, z3]
    by_cases c : y = v.toNat
    · rw [if_pos c, if_pos rfl]
      omega
    · rw [if_neg c] at y2 ⊢
      obtain ⟨x1, x2⟩ := d2 y y1 y2
      rw [if_neg (by omega)]
      exact ⟨by omega, x2⟩
  · rw [r61]
    by_cases c : r = (g 0 3).toNat
    · refine ⟨v.toNat, by omega, by rw [if_pos c]; omega, by rw [b115, if_pos rfl]; omega⟩
    · obtain ⟨y, y1, y2, y3⟩ := d3 r (by omega)
      refine ⟨y, y1, by rw [if_neg c]; exact y2, ?_⟩
      rw [b115]
      by_cases cy : y = v.toNat
      · rw [cy] at y3
        omega
      · rw [if_neg cy]; exact y3
  · rw [me_a (k := 63) hF hS rfl rfl, me_a (k := 64) hF hS rfl rfl, b129, b130]
    by_cases c : y = (g 0 2).toNat
    · have e : (y : Int) = g 0 2 := by omega
      rw [if_pos c, if_pos c, e, fn]
      refine d5 _ (by omega) (fun x hx => ?_)
      have := F4 x (by omega) hx
      omega
    · rw [if_neg c, if_neg c, fo y (by omega)]
      exact d4 y (by omega)
  · rw [me_a (k := 63) hF hS rfl rfl, me_a (k := 64) hF hS rfl rfl]
    exact d5 j j1 (fun x hx => by have := j2 x (by omega); rwa [fo x hx] at this)
  · rw [me_a (k := 65) hF hS rfl rfl, me_a (k := 66) hF hS rfl rfl, me_a (k := 67) hF hS rfl rfl, b 126 (by decide), b 127 (by decide), b 128 (by decide)]; exact d6 a (by omega)
  · rw [me_a (k := 68) hF hS rfl rfl, me_a (k := 69) hF hS rfl rfl, me_a (k := 70) hF hS rfl rfl, me_a (k := 71) hF hS rfl rfl, me_a (k := 72) hF hS rfl rfl, me_a (k := 73) hF hS rfl rfl]
    unfold cq_v cq_n
    rw [b 119 (by decide), b 120 (by decide), b 121 (by decide), b 122 (by decide), b 123 (by decide), b 124 (by decide), b 125 (by decide)]
    obtain ⟨x1, x2, x3, x4, x5, x6⟩ := d7 u (by omega)
    refine ⟨x1, ?_, x3, x4, x5, x6⟩
    rw [x2]
    unfold cq_v
    by_cases c : g 119 u = 10
    · rw [if_neg (c := g 119 u = 9) (by omega), if_neg (c := g 119 u = 9) (by omega), if_pos c, if_pos c, fo _ ((d9 u (by omega)).1 c).2]
    · rw [if_neg c, if_neg c]
  · rw [me_a (k := 75) hF hS rfl rfl, b 117 (by decide)]; exact d8 l (by omega)
  · rw [b 119 (by decide), b 120 (by decide), z2]
    have := d9 u (by omega)
    exact ⟨fun x => by have := this.1 x; omega, this.2⟩
  · rw [b114, z2]
    by_cases c : r = (g 0 3).toNat
    · rw [if_pos c, fn]
      exact ⟨by omega, by omega⟩
    · rw [if_neg c]
      have := F1 r (by omega)
      rw [fo _ this.1.2]
      exact ⟨by omega, this.2⟩
  · rw [z3]; exact fg x (by omega)
  · by_cases cx : x = g 0 2
    · by_cases cy : y = g 0 2
      · omega
      · have := F4 y y0 (by omega)
        rw [cx, fn, fo y (by omega)] at e
        omega
    · have fx := F4 x x0 (by omega)
      by_cases cy : y = g 0 2
      · rw [cy, fn, fo x (by omega)] at e
        omega
      · rw [fo x (by omega), fo y (by omega)] at e
        exact F3 x y x0 (by omega) y0 (by omega) e
  · rw [z2, z3]
    by_cases cx : x = g 0 2
    · rw [cx, fn]; omega
    · rw [fo x (by omega)]
      have := F4 x x0 (by omega)
      omega
end CQM
/-! the class's reader beside the turns: its token; expect; is it one too many -/
theorem tk_k {n : Int} {c : Nat → Int} {a t v p e : Int} (h : tk_T n c a t v p e) : (0 ≤ t ∧ t ≤ 6) ∨ tx_own t := by
  obtain ⟨-, h2⟩ := h
  rcases h2 with ⟨x1, x2⟩ | ⟨x1, x2⟩
  · omega
  · rcases x2 with ⟨x3, x4, x5, x6⟩ | ⟨x3, x4, x5, x6⟩ | ⟨x3, x4, x5, x6⟩ | ⟨x3, q, x5, x6⟩ | ⟨x3, x4⟩ | ⟨x3, x4, x5, x6⟩ | ⟨x3, x4, x5, x6, x7, x8, x9⟩
    · omega
    · omega
    · omega
    · rcases x6 with ⟨-, -, -, -, u5, -⟩ | ⟨-, u2⟩ <;> omega
    · rcases x4 with ⟨-, -, u3, -⟩ | ⟨-, u2⟩ <;> omega
    · right; rw [x4]; exact x3
    · omega
theorem so_r_v (v : Int) : so_r v = -1 ∨ (1 ≤ so_r v ∧ so_r v ≤ 7) := by
  unfold so_r
  split
  · right; decide
  split
  · right; decide
  split
  · right; decide
  split
  · right; decide
  split
  · right; decide
  split
  · right; decide
  split
  · right; decide
  · left; rfl
/-- what the class's sort of a token says -/
theorem cs_i {n : Int} {c : Nat → Int} {a t v p e : Int} (h : tk_T n c a t v p e) : ((1 ≤ cs_t t v ∧ cs_t t v ≤ 10) ↔ ip_t t v) ∧ (cs_t t v = 9 ↔ t = 2) ∧ (cs_t t v = 8 ↔ (t = 3 ∨ t = 4)) ∧ (cs_t t v = 10 ↔ t = 40) ∧ (cs_t t v = 1 ↔ (t = 1 ∧ so_r v = 1)) ∧ (cs_t t v = 11 ↔ t = 5) ∧ (cs_t t v = 0 ↔ t = 0) ∧ (∀ k, 41 ≤ k → (cs_t t v = k ↔ t = k)) ∧ (ip_t t v → cs_t t v = pu_s t v) ∧ (0 ≤ cs_t t v ∧ cs_t t v ≤ 126) ∧ (ip_t t v → cs_t t v ≠ 12) := by
  have k := tk_k h
  have sr := so_r_v v
  unfold tx_own at k
  unfold ip_t pu_s
  by_cases c0 : t = 0
  · subst c0
    have e : cs_t 0 v = 0 := rfl
    rw [e]
    refine ⟨by omega, by omega, by omega, by omega, by omega, by omega, by omega, fun k hk => by omega, fun x => by omega, by omega, fun x => by omega⟩
  by_cases c1 : t = 1
  · subst c1
    have e : cs_t 1 v = if so_r v = -1 then 12 else so_r v := by
      show so_c v = _
      exact so_rc v
    rw [e]
    rcases sr with x | x
    · rw [if_pos x]
      refine ⟨by omega, by omega, by omega, by omega, by omega, by omega, by omega, fun k hk => by omega, fun x => by omega, by omega, fun x => by omega⟩
    · rw [if_neg (by omega)]
      refine ⟨by omega, by omega, by omega, by omega, by omega, by omega, by omega, fun k hk => by omega, fun x => ?_, by omega, fun x => by omega⟩
      rw [if_pos rfl]
  by_cases c2 : t = 2
  · subst c2
    have e : cs_t 2 v = 9 := rfl
    rw [e]
    refine ⟨by omega, by omega, by omega, by omega, by omega, by omega, by omega, fun k hk => by omega, fun x => ?_, by omega, fun x => by omega⟩
    rfl
  by_cases c3 : t = 3
  · subst c3
    have e : cs_t 3 v = 8 := rfl
    rw [e]
    refine ⟨by omega, by omega, by omega, by omega, by omega, by omega, by omega, fun k hk => by omega, fun x => ?_, by omega, fun x => by omega⟩
    rfl
  by_cases c4 : t = 4
  · subst c4
    have e : cs_t 4 v = 8 := rfl
    rw [e]
    refine ⟨by omega, by omega, by omega, by omega, by omega, by omega, by omega, fun k hk => by omega, fun x => ?_, by omega, fun x => by omega⟩
    rfl
  by_cases c5 : t = 5
  · subst c5
    have e : cs_t 5 v = 11 := rfl
    rw [e]
    refine ⟨by omega, by omega, by omega, by omega, by omega, by omega, by omega, fun k hk => by omega, fun x => by omega, by omega, fun x => by omega⟩
  by_cases c6 : t = 6
  · subst c6
    have e : cs_t 6 v = 12 := rfl
    rw [e]
    refine ⟨by omega, by omega, by omega, by omega, by omega, by omega, by omega, fun k hk => by omega, fun x => by omega, by omega, fun x => by omega⟩
  by_cases c40 : t = 40
  · subst c40
    have e : cs_t 40 v = 10 := rfl
    rw [e]
    refine ⟨by omega, by omega, by omega, by omega, by omega, by omega, by omega, fun k hk => by omega, fun x => ?_, by omega, fun x => by omega⟩
    rfl
  · have e : cs_t t v = t := by
      unfold cs_t
      rw [if_neg c0, if_neg c1, if_neg c2, if_neg (by omega), if_neg c5, if_neg c6, if_neg c40]
    rw [e]
    refine ⟨by omega, by omega, by omega, by omega, by omega, by omega, by omega, fun k hk => by omega, fun x => by omega, by omega, fun x => by omega⟩
/-- the class looks at the token at a -/
def CT (n : Int) (c : Nat → Int) (h : sm_H) (a t v e : Int) : Prop := tk_T n c a t v (mi_f h 9858) e ∧ mi_f h 9859 = cs_t t v ∧ (t ≠ 0 → t ≠ 6 → cs_t t v ≠ 12 → mi_f h 9860 = cc_t t v ∧ mi_f h 9857 = e)
/-- its text -/
def CX (n : Int) (c : Nat → Int) (h : sm_H) : Prop := ab_Sh sx_sk h ∧ mi_f h 6657 = n ∧ mi_a h 53 = c ∧ cx_ok h ∧ mi_f h 9731 = 0
def cw_W : List (Nat × Nat) := [(7680, 9984)]
section KSY
variable {d : Nat} {n : Int} {c : Nat → Int} {h h' : sm_H} {a t v e : Int}
theorem CX_fr (hx : CX n c h) (hS : ab_Sh sx_sk h') {wr : List (Nat × Nat)} (hF : ab_Fr wr h h') (hw : (ab_in wr 6657 || ab_in wr 6784 || ab_in wr 9731) = false) : CX n c h' := by
  simp only [Bool.or_eq_false_iff] at hw
  obtain ⟨x1, x2, x3, x4, x5⟩ := hx
  have e1 : mi_f h' 6657 = mi_f h 6657 := me_f (c := 6657) hF x1 rfl hw.1.1
  have e2 : ∀ i, mi_a h' 53 i = mi_a h 53 i := fun i => me_a (k := 53) hF x1 rfl hw.1.2
  refine ⟨hS, e1.trans x2, (funext e2).trans x3, fun i hi => ?_, (me_f (c := 9731) hF x1 rfl hw.2).trans x5⟩
  rw [e1] at hi
  rw [e2]
  exact x4 i hi
theorem CT_fr (ht : CT n c h a t v e) (hS : ab_Sh sx_sk h) {wr : List (Nat × Nat)} (hF : ab_Fr wr h h') (hw : (ab_in wr 9857 || ab_in wr 9858 || ab_in wr 9859 || ab_in wr 9860) = false) : CT n c h' a t v e := by
  simp only [Bool.or_eq_false_iff] at hw
  unfold CT at ht ⊢
  rw [me_f (c := 9857) hF hS rfl hw.1.1.1, me_f (c := 9858) hF hS rfl hw.1.1.2, me_f (c := 9859) hF hS rfl hw.1.2, me_f (c := 9860) hF hS rfl hw.2]
  exact ht
theorem CT_p (hx : CX n c h) (ht : CT n c h a t v e) (a1 : a ≤ n) : 0 ≤ mi_f h 9858 ∧ a ≤ mi_f h 9858 ∧ mi_f h 9858 ≤ n ∧ n ≤ 240 := by
  have b := me_fb (c := 9858) hx.1 rfl
  have b2 := me_fb (c := 6657) hx.1 rfl
  have k := tk_f a1 ht.1
  have := hx.2.1
  omega
/-- on to the next token -/
theorem me_adv (hx : CX n c h) (ht : CT n c h a t v e) (a1 : a ≤ n) (t0 : t ≠ 0) (t6 : t ≠ 6) (t12 : cs_t t v ≠ 12) : me_E (d + 10) 18 0 [some (.inr (.inr 77)), none] [] h (fun w h' => w = none ∧ CX n c h' ∧ ab_Fr ca_W h h' ∧ e ≤ n ∧ a < e ∧ ∃ t' v' e', CT n c h' e t' v' e') := by
  have k := tk_f a1 ht.1
  have ke := k.2.2.1 t0 t6
  obtain ⟨c1, c2⟩ := ht.2.2 t0 t6 t12
  refine (me_advance (d := d) hx.1 hx.2.2.2.1 (by rw [c2, hx.2.1]; exact ke.2)).imp (fun w h' hq => ?_)
  obtain ⟨q1, q2, q3, t', v', e', q4, q5, q6⟩ := hq
  rw [hx.2.1, hx.2.2.1, c2] at q4
  exact ⟨q1, CX_fr hx q2 q3 (by decide), q3, ke.2, by omega, t', v', e', q4, q5, q6⟩
/-- expect -/
theorem me_expectF {zm : Int} (hS : ab_Sh sx_sk h) (om : mi_in zm) (hf : mi_f h 9730 ≠ 0) : me_E (d + 11) 51 0 [some (.inr (.inr 76)), some (.inl zm)] [] h (fun w h' => w = none ∧ h' = h) := by
  refine mt_xpA hS om ?_ ?_ ?_
  · intro b b2 c1; exact absurd c1 hf
  · intro b b2 c1; exact absurd c1 hf
  · intro b c1 h1 g1 g2
    exact ⟨rfl, me_nil g2⟩
theorem me_expect {zm : Int} (hx : CX n c h) (ht : CT n c h a t v e) (a1 : a ≤ n) (om : mi_in zm) (hf : mi_f h 9730 = 0) (hz : cs_t t v = zm → t ≠ 0 ∧ t ≠ 6 ∧ cs_t t v ≠ 12) : me_E (d + 11) 51 0 [some (.inr (.inr 76)), some (.inl zm)] [] h (fun w h' => w = none ∧
    ((cs_t t v ≠ zm ∧ ab_Sh sx_sk h' ∧ mi_f h' 9730 = 1 ∧ mi_f h' 9731 = mi_f h 9858 ∧ ab_Fr [(9730, 9732)] h h') ∨
     (cs_t t v = zm ∧ CX n c h' ∧ ab_Fr ca_W h h' ∧ e ≤ n ∧ a < e ∧ ∃ t' v' e', CT n c h' e t' v' e'))) := by
  have es := ht.2.1
  refine mt_xpA hx.1 om ?_ ?_ ?_
  · intro b b2 c1 c2 h1 g1 g2
    have e := me_nil g2
    subst e
    obtain ⟨z0, z6, z12⟩ := hz (by omega)
    refine ⟨_, me_adv (d := d) hx ht a1 z0 z6 z12, fun w h2 ow hq => ?_⟩
    obtain ⟨rfl, q1, q2, q3⟩ := hq
    refine mt_xpB q1.1 om (fun h3 g1 g2 => ?_)
    have e := me_nil g2
    subst e
    exact ⟨rfl, Or.inr ⟨by omega, q1, q2, q3⟩⟩
  · intro b b2 c1 c2 h1 g1 g2 g3 g4
    exact ⟨rfl, Or.inl ⟨by omega, g1, g2, g3, g4⟩⟩
  · intro b c1; exact absurd hf c1
/-- is it one too many -/
theorem me_otm {f : Int → Int} {ow : Nat → Nat} {g : wk_g} {m zo : Int} (hx : CX n c h) (ht : CT n c h a t v e) (hq : CQ f ow g h) (hP : PI ow g m) (hip : ip_t t v) (ho : zo = g 0 5) : me_E (d + 2) 57 0 [some (.inr (.inr 76)), some (.inl zo), none] [] h (fun w h' => h' = h ∧ ∃ z, w = some (.inl z) ∧ (z = 0 ∨ z = 1) ∧ (z = 1 ↔ rp_N g t v)) := by
  obtain ⟨⟨p1, p2, p3, p4, p5, p6⟩, -⟩ := hP
  obtain ⟨⟨c0, c1, c2, c3, c4⟩, d1, d2, d3, d4, d5, d6, d7, d8, d9, dw⟩ := hq
  have oz : mi_in zo := ⟨by omega, by omega⟩
  have ci := cs_i ht.1
  obtain ⟨i1, i2, i3, i4, -⟩ := ci
  have es := ht.2.1
  obtain ⟨k0, k6⟩ := ip_ne hip
  obtain ⟨hc, -⟩ := ht.2.2 k0 k6 ((cs_i ht.1).2.2.2.2.2.2.2.2.2.2 hip)
  have tail : ∀ zl : Int, (zl = 0 ∨ zl = 1) → (zl = 1 ↔ ((t = 3 ∨ t = 4) ∧ ∀ j : Nat, (j : Int) < g 0 4 → g 117 j ≠ lc_t t v)) → me_E (d + 2) 57 36 [some (.inr (.inr 76)), some (.inl zo), some (.inl zl)] [] h (fun w h' => h' = h ∧ ∃ z, w = some (.inl z) ∧ (z = 0 ∨ z = 1) ∧ (z = 1 ↔ rp_N g t v)) := fun zl l01 hl => by
    have yes : rp_N g t v → ∀ h1, ab_Sh sx_sk h1 → ab_Fr [] h h1 → h1 = h ∧ ∃ z, some (.inl (1 : Int)) = some (.inl z : mi_V) ∧ (z = 0 ∨ z = 1) ∧ (z = 1 ↔ rp_N g t v) := fun hy h1 g1 g2 => ⟨me_nil g2, 1, rfl, Or.inr rfl, ⟨fun _ => hy, fun _ => rfl⟩⟩
    have no : ¬ rp_N g t v → ∀ h1, ab_Sh sx_sk h1 → ab_Fr [] h h1 → h1 = h ∧ ∃ z, some (.inl (0 : Int)) = some (.inl z : mi_V) ∧ (z = 0 ∨ z = 1) ∧ (z = 1 ↔ rp_N g t v) := fun hy h1 g1 g2 => ⟨me_nil g2, 0, rfl, Or.inl rfl, ⟨fun x => absurd x (by decide), fun x => absurd x hy⟩⟩
    refine mt_otC hx.1 oz ⟨by omega, by omega⟩ ?_ ?_ ?_ ?_ ?_ ?_ ?_ ?_
    · intro b x1
      exact yes (Or.inl (by omega))
    · intro b b2 x1 x2 x3
      refine no (fun y => ?_)
      rcases y with y | y | y
      · omega
      · have := i4.mpr y.1
        omega
      · have := hl.mpr ⟨y.1, y.2.1⟩
        omega
    · intro b b2 b3 x1 x2 x3 x4
      refine no (fun y => ?_)
      rcases y with y | y | y
      · omega
      · have := i4.mpr y.1
        omega
      · have := y.2.2
        omega
    · intro b b2 b3 x1 x2 x3 x4
      have := hl.mp (by omega)
      exact yes (Or.inr (Or.inr ⟨this.1, this.2, by omega⟩))
    · intro b b2 x1 x2 x3
      exact yes (Or.inr (Or.inl ⟨i4.mp (by omega), by omega⟩))
    · intro b b2 x1 x2 x3 x4
      refine no (fun y => ?_)
      rcases y with y | y | y
      · omega
      · omega
      · have := i3.mpr y.1
        omega
    · intro b b2 b3 x1 x2 x3 x4 x5
      refine no (fun y => ?_)
      rcases y with y | y | y
      · omega
      · omega
      · have := i3.mpr y.1
        omega
    · intro b b2 b3 x1 x2 x3 x4 x5
      exfalso
      have := i3.mpr (hl.mp (by omega)).1
      omega
  refine mt_otA hx.1 oz ?_ ?_
  · intro b x1 h1 g1 g2
    have e := me_nil g2
    subst e
    refine tail 0 (Or.inl rfl) ⟨fun x => absurd x (by decide), fun x => ?_⟩
    have := i3.mpr x.1
    omega
  · intro b x1 h1 g1 g2
    have e := me_nil g2
    subst e
    have t34 := i3.mp (by omega)
    have ec : mi_f h1 9860 = lc_t t v := by
      rw [hc]
      rcases t34 with x | x
      · rw [x]; rfl
      · rw [x]; rfl
    have bc := me_fb (c := 9860) hx.1 rfl
    refine ⟨_, me_gliteral (d := d) hx.1 ⟨by omega, by omega⟩ (by omega), fun w h2 oww hq2 => ?_⟩
    obtain ⟨rfl, z, rfl, hz⟩ := hq2
    refine mt_otB (zz := z) hx.1 oz ⟨by omega, by omega⟩ ?_ ?_
    · intro x2 h3 g1 g2
      have e := me_nil g2
      subst e
      refine tail 0 (Or.inl rfl) ⟨fun x => absurd x (by decide), fun x => ?_⟩
      rcases hz with y | y
      · have := x.2 z.toNat (by omega)
        rw [← d8 z.toNat (by omega)] at this
        rw [← ec] at this
        exact absurd y.2.2.1 this
      · exact absurd y.1 x2
    · intro x2 h3 g1 g2
      have e := me_nil g2
      subst e
      refine tail 1 (Or.inr rfl) ⟨fun _ => ⟨t34, fun j hj => ?_⟩, fun _ => rfl⟩
      rcases hz with y | y
      · omega
      · rw [← d8 j hj, ← ec]
        exact y.2 j (by omega)
end KSY
/-! the class's readPart does the same turns -/
/-- levels below b are as they were -/
def KL (b k : Int) (g g' : wk_g) : Prop := g' 0 5 = g 0 5 ∧ g' 0 3 = g 0 3 ∧ g 0 0 ≤ g' 0 0 ∧ (∀ i : Nat, (i : Int) < b → g' 146 i = g 146 i ∧ g' 147 i = g 147 i ∧ g' 149 i = g 149 i ∧ g' 150 i = g 150 i ∧ g' 151 i = g 151 i) ∧ (∀ i : Nat, (i : Int) ≤ k → g' 148 i = g 148 i) ∧ g' 146 k.toNat = g 146 k.toNat
theorem KL_refl {b k : Int} {g : wk_g} : KL b k g g := ⟨rfl, rfl, Int.le_refl _, fun _ _ => ⟨rfl, rfl, rfl, rfl, rfl⟩, fun _ _ => rfl, rfl⟩
theorem KL_trans {b b' k : Int} {g g1 g2 : wk_g} (h : KL b k g g1) (h' : KL b' k g1 g2) (hb : b' ≤ b) : KL b' k g g2 := by
  obtain ⟨a1, a2, a3, a4, a5, a6⟩ := h
  obtain ⟨b1, b2, b3, b4, b5, b6⟩ := h'
  refine ⟨b1.trans a1, b2.trans a2, by omega, fun i hi => ?_, fun i hi => (b5 i hi).trans (a5 i hi), b6.trans a6⟩
  obtain ⟨x1, x2, x3, x4, x5⟩ := a4 i (by omega)
  obtain ⟨y1, y2, y3, y4, y5⟩ := b4 i hi
  exact ⟨y1.trans x1, y2.trans x2, y3.trans x3, y4.trans x4, y5.trans x5⟩
/-- the forms that were there have as many choices as they had -/
def K3 (g g' : wk_g) : Prop := g 0 2 ≤ g' 0 2 ∧ ∀ y : Nat, (y : Int) < g 0 2 → g' 130 y = g 130 y
def K3x (k : Int) (g g' : wk_g) : Prop := g 0 2 ≤ g' 0 2 ∧ ∀ y : Nat, (y : Int) < g 0 2 → (y : Int) ≠ g 146 k.toNat → g' 130 y = g 130 y
theorem ft_Bpre {n : Int} {c : Nat → Int} {x y : ft_X} {j : Nat} {f : Int} (h : ft_Tr n c j x y) (h' : ft_B n c y f) : ft_B n c x f := by
  obtain ⟨k, z, h1, h2⟩ := h'
  obtain ⟨i, h3⟩ := ft_app h1 j x h
  exact ⟨i, z, h3, h2⟩
def kF (h' : sm_H) : Int := mi_f h' 9730 + 16 * mi_f h' 9731
/-- the fault's number and place are small -/
def kb (h' : sm_H) : Prop := (1 ≤ mi_f h' 9730 ∧ mi_f h' 9730 ≤ 4) ∧ 0 ≤ mi_f h' 9731 ∧ mi_f h' 9731 ≤ 241
def kB (n : Int) (c : Nat → Int) (x : ft_X) (h' : sm_H) : Prop := ft_B n c x (kF h') ∧ kb h'
theorem kb_of {h0 h' : sm_H} {k : Int} (hS : ab_Sh sx_sk h0) (e1 : mi_f h' 9730 = k) (e2 : mi_f h' 9731 = mi_f h0 9858) (k1 : 1 ≤ k ∧ k ≤ 4) : kb h' := by
  have := me_fb (c := 9858) hS rfl
  exact ⟨by omega, by omega, by omega⟩
theorem kB_of {n : Int} {c : Nat → Int} {x : ft_X} {h0 h' : sm_H} {k : Int} (hS : ab_Sh sx_sk h0) (e1 : mi_f h' 9730 = k) (e2 : mi_f h' 9731 = mi_f h0 9858) (k1 : 1 ≤ k ∧ k ≤ 4) (hB : ft_B n c x (k + 16 * mi_f h0 9858)) : kB n c x h' := by
  refine ⟨?_, kb_of hS e1 e2 k1⟩
  unfold kF
  rw [e1, e2]
  exact hB
theorem kB_eq {n : Int} {c : Nat → Int} {x : ft_X} {h h' : sm_H} (e1 : mi_f h' 9730 = mi_f h 9730) (e2 : mi_f h' 9731 = mi_f h 9731) (hB : kB n c x h) : kB n c x h' := by
  unfold kB kF kb at hB ⊢
  rw [e1, e2]
  exact hB
theorem kB_pre {n : Int} {c : Nat → Int} {x y : ft_X} {h : sm_H} {j : Nat} (h1 : ft_Tr n c j x y) (h2 : kB n c y h) : kB n c x h := ⟨ft_Bpre h1 h2.1, h2.2⟩
/-- readPart's end: u is made, but hangs nowhere yet (gb) -/
def rp_P (n : Int) (c : Nat → Int) (f : Int → Int) (x : ft_X) (h : sm_H) (w : Option mi_V) (h' : sm_H) : Prop :=
  w = some (.inl (x.1 0 0)) ∧ ab_Sh sx_sk h' ∧ ab_Fr cw_W h h' ∧
  (mi_f h' 9730 = 0 → CX n c h' ∧ ∃ ow' gb a' t' v' e' j, ft_Tr n c j x (rf_put gb (x.1 0 0), a', 0, 1, ft_p x.1) ∧ PI ow' gb (x.1 0 5) ∧ pi_un gb (x.1 0 0) ∧ (∀ i : Nat, 1 ≤ i → (i : Int) ≤ x.1 0 5 → gb 148 i < x.1 0 0) ∧ (∀ i : Nat, (i : Int) ≤ x.1 0 5 → gb 149 i < x.1 0 0 ∧ gb 150 i < x.1 0 0) ∧ FI f gb ∧ CQ f ow' gb h' ∧ KL (x.1 0 5 + 1) (x.1 0 5) x.1 gb ∧ gb 0 1 ≤ gb 0 0 ∧ CT n c h' a' t' v' e' ∧ (0 ≤ a' ∧ a' ≤ n) ∧ x.1 0 0 < gb 0 0 ∧ K3 x.1 gb) ∧
  (mi_f h' 9730 ≠ 0 → kB n c x h')
/-- what readPart, readUnit are begun with -/
def KS (n : Int) (c : Nat → Int) (f : Int → Int) (ow : Nat → Nat) (x : ft_X) (h : sm_H) : Prop :=
  CX n c h ∧ mi_f h 9730 = 0 ∧ PI ow x.1 (x.1 0 5) ∧ FI f x.1 ∧ CQ f ow x.1 h ∧ x.1 0 1 ≤ x.1 0 0 + 1 ∧ (0 ≤ x.2.1 ∧ x.2.1 ≤ n)
theorem rf_pw {g : wk_g} {u w : Int} : rf_word (rf_put g u) u w = rf_put (rf_word g u w) u := by
  funext r i
  by_cases c : r = 120
  · subst c
    rfl
  · unfold rf_word
    rw [if_neg c]
    unfold rf_put
    simp only [if_neg c, show ((0 : Nat) = 120) = False from by simp, show ((124 : Nat) = 120) = False from by simp, show ((125 : Nat) = 120) = False from by simp, show ((126 : Nat) = 120) = False from by simp, show ((147 : Nat) = 120) = False from by simp, show ((149 : Nat) = 120) = False from by simp, show ((150 : Nat) = 120) = False from by simp, show ((151 : Nat) = 120) = False from by simp, if_false]
section KPA
variable {d : Nat} {n : Int} {c : Nat → Int} {f : Int → Int} {ow : Nat → Nat} {x : ft_X} {h h2 : sm_H} {t v e : Int} {gb : wk_g}
/-- the unit is made: the rest, where it is no group -/
theorem kp62 (hK : KS n c f ow x h) (ht : CT n c h x.2.1 t v e) (hip : ip_t t v) (n40 : t ≠ 40) (hT : ∀ g2 a2, ((t = 1 ∧ so_r v = 1) → fp_R n c (rf_put gb (x.1 0 0)) e g2 a2) → (¬ (t = 1 ∧ so_r v = 1) → g2 = rf_put gb (x.1 0 0) ∧ a2 = e) → ft_T n c x (g2, a2, 0, 1, ft_p x.1)) (hTF : (t = 1 ∧ so_r v = 1) → ∀ p3, fp_N n c e p3 → ft_F n c x (1 + 16 * p3))
    (s1 : ab_Sh sx_sk h2) (s2 : ab_Fr [(7680, 9728)] h h2) (hQ : CQ f (ow_new x.1 ow) gb h2) (hP : PI (ow_new x.1 ow) gb (x.1 0 5)) (hu : pi_un gb (x.1 0 0)) (hb5 : KL (x.1 0 5 + 1) (x.1 0 5) x.1 gb) (hb3 : K3 x.1 gb) (hb0 : gb 0 0 = x.1 0 0 + 1) (hb1 : gb 0 1 = x.1 0 1) (hf : FI f gb) (hn9 : (t = 1 ∧ so_r v = 1) → gb 119 (x.1 0 0).toNat = 1) : me_E (d + 12) 59 62 [some (.inr (.inr 76)), some (.inl (x.1 0 5)), some (.inl (cs_t t v)), some (.inl (x.1 0 0)), none] [] h2 (rp_P n c f x h) := by
  obtain ⟨hx, hf0, kP, kf, kQ, kA, ⟨ka0, ka1⟩⟩ := hK
  obtain ⟨⟨p1, p2, p3, p4, p5, p6⟩, q1, q2, q3, q4, q5, q6, q7, q8⟩ := kP
  have ci := cs_i ht.1
  obtain ⟨k0, k6⟩ := ip_ne hip
  have k12 := ci.2.2.2.2.2.2.2.2.2.2 hip
  have cb := ci.2.2.2.2.2.2.2.2.2.1
  have oz : mi_in (x.1 0 5) := ⟨by omega, by omega⟩
  have os : mi_in (cs_t t v) := ⟨by omega, by omega⟩
  have ou : mi_in (x.1 0 0) := ⟨by omega, by omega⟩
  have hx2 := CX_fr hx s1 s2 (by decide)
  have ht2 := CT_fr ht hx.1 s2 (by decide)
  have f2 : mi_f h2 9730 = 0 := (me_f (c := 9730) s2 hx.1 rfl rfl).trans hf0
  have o1 : ∀ i : Nat, 1 ≤ i → (i : Int) ≤ x.1 0 5 → gb 148 i < x.1 0 0 := fun i i1 hi => by
    rw [hb5.2.2.2.2.1 i hi]
    exact (q3 i i1 hi).1.2
  have o2 : ∀ i : Nat, (i : Int) ≤ x.1 0 5 → gb 149 i < x.1 0 0 ∧ gb 150 i < x.1 0 0 := fun i hi => by
    obtain ⟨y1, y2, y3, y4, y5⟩ := hb5.2.2.2.1 i (by omega)
    rw [y3, y4]
    have := q1 i hi
    unfold pi_lev at this
    omega
  refine mt_rpD s1 oz os ou (fun h3 g1 g2 => ?_)
  have e0 := me_nil g2
  subst e0
  refine ⟨_, me_adv (d := d + 1) hx2 ht2 ka1 k0 k6 k12, fun w h4 oww hq => ?_⟩
  obtain ⟨rfl, x4, F4, en, ae, t2, v2, e2, ht4⟩ := hq
  have f4 : mi_f h4 9730 = 0 := (me_f (c := 9730) F4 s1 rfl rfl).trans f2
  have Q4 := CQ_fr hQ s1 F4 (by decide)
  have ci4 := cs_i ht4.1
  have es4 := ht4.2.1
  have FA : ab_Fr cw_W h h4 := (s2.wide (fun c hc => ab_swr_ok (by decide) hc)).trans (F4.wide (fun c hc => ab_swr_ok (by decide) hc))
  have fin : ∀ {g2 a2 t' v' e' h5 gb'}, (∀ (z : ((t = 1 ∧ so_r v = 1) → fp_R n c (rf_put gb (x.1 0 0)) e g2 a2)), True) → ft_T n c x (g2, a2, 0, 1, ft_p x.1) → g2 = rf_put gb' (x.1 0 0) → ab_Fr cw_W h h5 → mi_f h5 9730 = 0 → CX n c h5 → CT n c h5 a2 t' v' e' → (0 ≤ a2 ∧ a2 ≤ n) → CQ f (ow_new x.1 ow) gb' h5 → PI (ow_new x.1 ow) gb' (x.1 0 5) → pi_un gb' (x.1 0 0) → (∀ r, r ≠ 120 → gb' r = gb r) → FI f gb' → rp_P n c f x h (some (.inl (x.1 0 0))) h5 := fun {g2 a2 t' v' e' h5 gb'} _ y1 y2 y3 y4 y5 y6 y7 y8 y9 y10 y11 y12 => by
    refine ⟨rfl, y5.1, y3, fun _ => ⟨y5, ow_new x.1 ow, gb', a2, t', v', e', 1, ⟨_, y1, by rw [y2]; rfl⟩, y9, y10, ?_, ?_, y12, y8, ?_, ?_, y6, y7, ?_, ?_⟩, fun z => absurd y4 z⟩
    · intro i i1 hi
      rw [y11 148 (by decide)]
      exact o1 i i1 hi
    · intro i hi
      rw [y11 149 (by decide), y11 150 (by decide)]
      exact o2 i hi
    · unfold KL at hb5 ⊢
      rw [y11 0 (by decide), y11 146 (by decide), y11 147 (by decide), y11 148 (by decide), y11 149 (by decide), y11 150 (by decide), y11 151 (by decide)]
      exact hb5
    · rw [y11 0 (by decide)]; omega
    · rw [y11 0 (by decide)]; omega
    · unfold K3 at hb3 ⊢
      rw [y11 0 (by decide), y11 130 (by decide)]
      exact hb3
  refine mt_rpE x4.1 oz os ou ?_ ?_ ?_ ?_ ?_
  · intro c1 c2 h5 g1 g2
    have e0 := me_nil g2
    subst e0
    have nn : ¬ (t = 1 ∧ so_r v = 1) := fun y => c1 (ci.2.2.2.2.1.mpr y)
    exact fin (fun _ => trivial) (hT (rf_put gb (x.1 0 0)) e (fun y => absurd y nn) (fun _ => ⟨rfl, rfl⟩)) rfl FA f4 x4 ht4 ⟨by omega, en⟩ Q4 hP hu (fun _ _ => rfl) hf
  · intro c1 c2
    exact absurd (ci.2.2.2.1.mp c2) n40
  · intro b c1 c2 c3 h5 g1 g2
    have e0 := me_nil g2
    subst e0
    have yy := ci.2.2.2.2.1.mp c1
    have n43 : t2 ≠ 43 := fun y => c2 (by rw [es4]; exact (ci4.2.2.2.2.2.2.2.1 43 (by decide)).mpr y)
    exact fin (fun _ => trivial) (hT (rf_put gb (x.1 0 0)) e (fun _ => ⟨_, _, _, _, ht4.1, Or.inl ⟨n43, rfl, rfl⟩⟩) (fun y => absurd yy y)) rfl FA f4 x4 ht4 ⟨by omega, en⟩ Q4 hP hu (fun _ _ => rfl) hf
  · intro b c1 c2 c3
    omega
  · intro b c1 c2 h5 g1 g2
    have e0 := me_nil g2
    subst e0
    have yy := ci.2.2.2.2.1.mp c1
    have y43 : t2 = 43 := (ci4.2.2.2.2.2.2.2.1 43 (by decide)).mp (by rw [← es4]; exact c2)
    have k12' : cs_t t2 v2 ≠ 12 := by rw [(ci4.2.2.2.2.2.2.2.1 43 (by decide)).mpr y43]; decide
    refine ⟨_, me_adv (d := d + 1) x4 ht4 en (by omega) (by omega) k12', fun w h6 oww hq => ?_⟩
    obtain ⟨rfl, x6, F6, en6, ae6, t3, v3, e3, ht6⟩ := hq
    have f6 : mi_f h6 9730 = 0 := (me_f (c := 9730) F6 x4.1 rfl rfl).trans f4
    have Q6 := CQ_fr Q4 x4.1 F6 (by decide)
    have ci6 := cs_i ht6.1
    have es6 := ht6.2.1
    refine mt_rpF x6.1 oz os ou ?_ ?_ ?_
    · intro c3; exfalso; omega
    · intro c3 c4; exfalso; have := hP.1.1; omega
    · intro c3 c4
      refine ⟨⟨by omega, by omega⟩, fun h7 r1 r2 r3 => ?_⟩
      have x7 := CX_fr x6 r1 r3 (by decide)
      have ht7 := CT_fr ht6 x6.1 r3 (by decide)
      have f7 : mi_f h7 9730 = 0 := (me_f (c := 9730) r3 x6.1 rfl rfl).trans f6
      have F7 : ab_Fr cw_W h h7 := (FA.trans (F6.wide (fun c hc => ab_swr_ok (by decide) hc))).trans (r3.wide (fun c hc => ab_swr_ok (by decide) hc))
      have z12 : cs_t t3 v3 = 11 → t3 ≠ 0 ∧ t3 ≠ 6 ∧ cs_t t3 v3 ≠ 12 := fun y => by
        have y5 := ci6.2.2.2.2.2.1.mp y
        exact ⟨by omega, by omega, by omega⟩
      refine ⟨_, me_expect (d := d) (zm := 11) x7 ht7 en6 ⟨by decide, by decide⟩ f7 z12, fun w h8 oww hq => ?_⟩
      obtain ⟨rfl, hq⟩ := hq
      have s8 : ab_Sh sx_sk h8 := by
        rcases hq with y | y
        · exact y.2.1
        · exact y.2.1.1
      refine mt_rpG s8 oz os ou (fun h9 g1 g2 => ?_)
      have e0 := me_nil g2
      subst e0
      rw [y43] at ht4
      rcases hq with ⟨y1, y2, y3, y4, y5⟩ | ⟨y1, y2, y3, y4, y5, t4, v4, e4, ht8⟩
      · have n5 : t3 ≠ 5 := fun z => y1 (ci6.2.2.2.2.2.1.mpr z)
        refine ⟨rfl, s8, F7.trans (y5.wide (fun c hc => ab_swr_ok (by decide) hc)), fun z => by omega, fun _ => ?_⟩
        have ep : mi_f h7 9858 = mi_f h6 9858 := me_f (c := 9858) r3 x6.1 rfl rfl
        exact kB_of x6.1 y3 (y4.trans ep) (by decide) ⟨0, x, rfl, hTF yy _ ⟨_, _, _, _, _, _, ht4.1, ht6.1, n5⟩⟩
      · have y5' := ci6.2.2.2.2.2.1.mp y1
        rw [y5'] at ht6
        have ec : mi_f h6 9860 = v3 := by
          have := (ht6.2.2 (by decide) (by decide) (by have e : cs_t 5 v3 = 11 := rfl; rw [e]; decide)).1
          exact this
        have Q7 : CQ f (ow_new x.1 ow) (rf_word gb (x.1 0 0) v3) h7 := CQ_word Q6 x6.1 r3 (by rw [hn9 yy]; decide) (by rw [hn9 yy]; decide) (fun i => by rw [r2, ec])
        have Q8 := CQ_fr Q7 r1 y3 (by decide)
        have wg : ∀ r, r ≠ 120 → rf_word gb (x.1 0 0) v3 r = gb r := fun r hr => by
          funext i
          unfold rf_word
          rw [if_neg hr]
        have P7 : PI (ow_new x.1 ow) (rf_word gb (x.1 0 0) v3) (x.1 0 5) := PI_cg hP (by rw [wg 0 (by decide)]; exact ⟨rfl, rfl, rfl, rfl, rfl⟩) (by rw [wg 0 (by decide)]; exact hP.1.2.2.2.2.1) (fun r hr i => by rw [wg r (by intro z; rw [z] at hr; revert hr; decide)])
        have U7 : pi_un (rf_word gb (x.1 0 0) v3) (x.1 0 0) := by
          unfold pi_un at hu ⊢
          rw [wg 0 (by decide), wg 124 (by decide), wg 125 (by decide), wg 126 (by decide)]
          exact hu
        have I7 : FI f (rf_word gb (x.1 0 0) v3) := FI_cg hf (by rw [wg 0 (by decide)]) (by rw [wg 0 (by decide)]) (fun i => by rw [wg 114 (by decide)])
        have eu : rf_put gb (x.1 0 0) 0 0 - 1 = x.1 0 0 := by
          show gb 0 0 - 1 = _
          omega
        have f8 : mi_f h9 9730 = 0 := (me_f (c := 9730) y3 r1 rfl rfl).trans f7
        refine fin (fun _ => trivial) (hT (rf_word (rf_put gb (x.1 0 0)) (x.1 0 0) v3) e3 (fun _ => ⟨_, _, _, _, ht4.1, Or.inr ⟨rfl, v3, _, ht6.1, by rw [eu]⟩⟩) (fun y => absurd yy y)) rf_pw (F7.trans (y3.wide (fun c hc => ab_swr_ok (by decide) hc))) f8 y2 ht8 ⟨by omega, y4⟩ Q8 P7 U7 wg I7
end KPA
