/-! both sides' rows: where units and alternatives stand -/
section YRW
variable {f : Int → Int} {ow : Nat → Nat} {g : wk_g} {Y : wk_Y} {h h2 : sm_H} {o : Nat → Nat}
theorem TW_rowg (hC : TC f ow g h) (hP : PR ow g) (hU : cv_u h (g 0 0)) : ∀ (M : Nat) (u : Int), (u = -1 ∨ ((0 ≤ u ∧ u < g 0 0) ∧ ow u.toNat = u.toNat)) → (u ≠ -1 → g 0 0 - u ≤ M) → cv_row h 60 u = wk_row g M u := by
  have hU60 := hU.1
  have fu : ∀ u : Int, 0 ≤ u → u < g 0 0 → cv_row h 60 u = u :: cv_row h 60 (mi_a h 71 u.toNat) := by
    intro u u0 u1
    have w := (hU.2 u u0 u1).1
    rw [cv_row_c, if_neg (by omega), cv_row_fuel hU 59 60 _ (by omega) (fun q => by omega)]
  intro M
  induction M with
  | zero =>
    intro u hu hn
    by_cases c : u = -1
    · rw [cv_row_c, if_pos c]
      rfl
    · have := hn c
      have := (hu.resolve_left c).1
      exfalso
      omega
  | succ M ih =>
    intro u hu hn
    by_cases c : u = -1
    · rw [cv_row_c, if_pos c]
      unfold wk_row
      rw [if_pos (by omega)]
    · have hn := hn c
      obtain ⟨⟨u0, u1⟩, ou⟩ := hu.resolve_left c
      have w := (hU.2 u u0 u1).1
      have x3 := (hC.2.2.2.1 u.toNat (by omega)).2.2.1
      obtain ⟨p1, p2, p3, p4, p5⟩ := hP.2.1 u.toNat (by omega)
      have nx : ∀ z : Int, z = g 125 u.toNat → u < z ∨ z = -1 → cv_row h 60 z = wk_row g M z := by
        intro z ez hz
        refine ih z ?_ (fun q => by omega)
        by_cases q : z = -1
        · exact Or.inl q
        · have z0 : 0 ≤ g 125 u.toNat := by omega
          refine Or.inr ⟨by omega, ?_⟩
          rw [ez]
          exact p4 z0
      rw [fu u u0 u1]
      unfold cq_n at x3
      unfold wk_row
      rw [if_neg (by omega)]
      by_cases c4 : 0 ≤ g 124 u.toNat
      · rw [if_pos c4] at x3
        rw [if_pos c4, x3]
        obtain ⟨m1, m2⟩ := p3 c4
        have mlt : g 124 u.toNat < g 0 0 := p1.2
        rw [fu _ c4 mlt]
        have x3' := (hC.2.2.2.1 (g 124 u.toNat).toNat (by omega)).2.2.1
        unfold cq_n at x3'
        rw [if_neg (by rw [m2]; decide), m1] at x3'
        have w' := (hU.2 _ c4 mlt).1
        rw [x3'] at w' ⊢
        rw [nx _ rfl (by omega)]
      · rw [if_neg c4, ou] at x3
        rw [if_neg c4, x3]
        rw [x3] at w
        rw [nx _ rfl (by omega)]
theorem TW_lg (hC : TC f ow g h) (hP : PR ow g) (hU : cv_u h (g 0 0)) {a : Int} (a0 : 0 ≤ a) (a1 : a < g 0 1) : cv_l h a = rr_l g a := by
  have hU60 := hU.1
  obtain ⟨x1, x2⟩ := hC.2.2.1 a.toNat (by omega)
  obtain ⟨⟨q1, q2⟩, q3⟩ := hP.2.2.1 a.toNat (by omega)
  unfold cv_l rr_l
  rw [← x1]
  refine TW_rowg hC hP hU 61 _ ?_ (fun q => by omega)
  rw [x1]
  by_cases c : g 126 a.toNat = -1
  · exact Or.inl c
  · exact Or.inr ⟨⟨by omega, q2⟩, q3 (by omega)⟩
theorem rr_g (hq : RQ g h2) : rr_l (mi_a h2) = rr_l g := by
  funext a
  unfold rr_l
  rw [wk_row_cg (TW_g hq (r := 124) (by decide)) (TW_g hq (r := 125) (by decide)), TW_g hq (r := 126) (by decide)]
theorem alt_g (hq : RQ g h2) (j : Nat) (a : Int) : wk_alt (mi_a h2) j a = wk_alt g j a := wk_alt_cg (TW_g hq (r := 128) (by decide)) j a
/-- the alternatives of a form -/
theorem altr (hq : RQ g h2) (hW : PW g) (hL : sy_L h2 Y) {F : Nat} (hF : (F : Int) < g 0 2) (j : Nat) (hj : (j : Int) < g 130 F) : 0 ≤ wk_alt g j (g 129 F) ∧ wk_alt g j (g 129 F) < g 0 1 := by
  have k := TW_alt hq hW hL hF j (by rw [TW_g hq (r := 130) (by decide)]; exact hj)
  rw [alt_g hq, TW_g hq (r := 129) (by decide)] at k
  exact k
theorem cv_as_g (hC : TC f ow g h) : ∀ (m : Nat) (a : Int), (∀ j : Nat, j < m → 0 ≤ wk_alt g j a ∧ wk_alt g j a < g 0 1) → cv_as h m a = ra_l g m a := by
  intro m
  induction m with
  | zero => intro a _; rfl
  | succ m ih =>
    intro a ha
    obtain ⟨a0, a1⟩ := ha 0 (Nat.zero_lt_succ _)
    have a0 : 0 ≤ a := a0
    have a1 : a < g 0 1 := a1
    obtain ⟨x1, x2⟩ := hC.2.2.1 a.toNat (by omega)
    show a :: cv_as h m (mi_a h 66 a.toNat) = a :: ra_l g m (g 128 a.toNat)
    rw [x2, ih _ (fun j hj => ha (j + 1) (by omega))]
theorem ra_mem {x : Int} : ∀ (m : Nat) (a : Int), x ∈ ra_l g m a ↔ ∃ j : Nat, j < m ∧ x = wk_alt g j a := by
  intro m
  induction m with
  | zero => intro a; exact ⟨fun q => absurd q List.not_mem_nil, fun ⟨j, hj, _⟩ => by omega⟩
  | succ m ih =>
    intro a
    show x ∈ a :: ra_l g m (g 128 a.toNat) ↔ _
    rw [List.mem_cons, ih]
    constructor
    · rintro (rfl | ⟨j, hj, e⟩)
      · exact ⟨0, by omega, rfl⟩
      · exact ⟨j + 1, by omega, e⟩
    · rintro ⟨j, hj, e⟩
      cases j with
      | zero => exact Or.inl e
      | succ j => exact Or.inr ⟨j, by omega, e⟩
theorem cvA_g (hq : RQ g h2) (hC : TC f ow g h) (hP : PR ow g) (hW : PW g) (hL : sy_L h2 Y) {F : Nat} (hF : (F : Int) < g 0 2) : cv_A h (fm_of f F) = ra_l g (g 130 F).toNat (g 129 F) := by
  obtain ⟨x1, x2⟩ := hC.1 F hF
  have q := hP.2.2.2 F hF
  unfold cv_A
  have e1 : cv_n h (fm_of f F) = (g 130 F).toNat := by
    unfold cv_n fm_of
    rw [x2]
    omega
  have e2 : mi_a h 63 (fm_of f F) = g 129 F := by
    unfold fm_of
    rw [x1]
  rw [e1, e2]
  exact cv_as_g hC _ _ (fun j hj => altr hq hW hL hF j (by omega))
theorem cvA_0 (hC : TC f ow g h) {F : Nat} (h70 : F < 70) (hn : ∀ x : Nat, (x : Int) < g 0 2 → f x ≠ F) : cv_A h F = [] := by
  unfold cv_A cv_n
  rw [hC.2.1 F h70 hn]
  rfl
theorem fm_i (hI : FI f g) {x : Nat} (hx : (x : Int) < g 0 2) : ((fm_of f x : Nat) : Int) = f x := by
  have := (hI.2.2.2 x (by omega) hx).1
  unfold fm_of
  omega
/-- a form of the class with alternatives is one of the reference's -/
theorem cvA_r (hC : TC f ow g h) (hI : FI f g) {F : Nat} (h70 : F < 70) {a : Int} (ha : a ∈ cv_A h F) : ∃ x : Nat, (x : Int) < g 0 2 ∧ F = fm_of f x := by
  refine Classical.byContradiction (fun q => ?_)
  have : cv_A h F = [] := cvA_0 hC h70 (fun x hx e => q ⟨x, hx, by have := fm_i hI hx; omega⟩)
  rw [this] at ha
  cases ha
theorem o_alt (hK : pk_a o g) {F : Nat} (hF : (F : Int) < g 0 2) (hr : ∀ j : Nat, (j : Int) < g 130 F → 0 ≤ wk_alt g j (g 129 F) ∧ wk_alt g j (g 129 F) < g 0 1) : ∀ j : Nat, (j : Int) < g 130 F → o (wk_alt g j (g 129 F)).toNat = F := by
  intro j
  induction j with
  | zero => intro hj; exact (hK.2.1 F hF).2.2.2 (hr 0 hj).1
  | succ j ih =>
    intro hj
    have i := ih (by omega)
    have b := hr j (by omega)
    have b1 := (hr (j + 1) hj).1
    rw [wk_alt_succ] at b1 ⊢
    have k := (hK.2.2 (wk_alt g j (g 129 F)).toNat (by omega)).2 b1
    rw [k, i]
theorem cvE_of (hq : RQ g h2) (hC : TC f ow g h) (hP : PR ow g) (hI : FI f g) (hW : PW g) (hL : sy_L h2 Y) (hK : PKr o g) : cv_E h := by
  intro F F' hF hF' a ha ha'
  obtain ⟨x, hx, rfl⟩ := cvA_r hC hI hF ha
  obtain ⟨x', hx', rfl⟩ := cvA_r hC hI hF' ha'
  rw [cvA_g hq hC hP hW hL hx, ra_mem] at ha
  rw [cvA_g hq hC hP hW hL hx', ra_mem] at ha'
  obtain ⟨j, hj, rfl⟩ := ha
  obtain ⟨j', hj', e⟩ := ha'
  have k1 := o_alt hK.2.2.2 hx (fun j hj => altr hq hW hL hx j hj) j (by omega)
  have k2 := o_alt hK.2.2.2 hx' (fun j hj => altr hq hW hL hx' j hj) j' (by omega)
  rw [e, k2] at k1
  rw [k1]
theorem cvof_g (hq : RQ g h2) (hC : TC f ow g h) (hP : PR ow g) (hW : PW g) (hL : sy_L h2 Y) (hU : cv_u h (g 0 0)) {F : Nat} (hF : (F : Int) < g 0 2) {u : Int} : cv_of h (fm_of f F) u ↔ fr_of h2 F u := by
  have e : cv_of h (fm_of f F) u ↔ ∃ a ∈ cv_A h (fm_of f F), u ∈ cv_l h a := Iff.rfl
  rw [e, cvA_g hq hC hP hW hL hF]
  unfold fr_of
  rw [rr_g hq, TW_g hq (r := 130) (by decide), TW_g hq (r := 129) (by decide)]
  constructor
  · rintro ⟨a, ha, hu⟩
    obtain ⟨j, hj, rfl⟩ := (ra_mem _ _).mp ha
    have b := altr hq hW hL hF j (by omega)
    refine ⟨j, by omega, ?_⟩
    rw [alt_g hq, ← TW_lg hC hP hU b.1 b.2]
    exact hu
  · rintro ⟨j, hj, hu⟩
    have b := altr hq hW hL hF j hj
    rw [alt_g hq, ← TW_lg hC hP hU b.1 b.2] at hu
    exact ⟨_, (ra_mem _ _).mpr ⟨j, by omega, rfl⟩, hu⟩
theorem cvD_of (hq : RQ g h2) (hC : TC f ow g h) (hP : PR ow g) (hI : FI f g) (hW : PW g) (hL : sy_L h2 Y) (hU : cv_u h (g 0 0)) : cv_D h := by
  intro F F' hF hF' u hu hu'
  have e65 : wk_f Y = g 0 2 := by rw [hL.2.2.1, ← hq.1.2.2.1]
  obtain ⟨a, ha, -⟩ := id hu
  obtain ⟨a', ha', -⟩ := id hu'
  obtain ⟨x, hx, rfl⟩ := cvA_r hC hI hF ha
  obtain ⟨x', hx', rfl⟩ := cvA_r hC hI hF' ha'
  rw [cvof_g hq hC hP hW hL hU hx] at hu
  rw [cvof_g hq hC hP hW hL hU hx'] at hu'
  have k1 := (fr_c hL.1 (by omega) hu).2
  have k2 := (fr_c hL.1 (by omega) hu').2
  have : x = x' := by omega
  rw [this]
/-- every alternative is in a form -/
theorem cov_a (hq : RQ g h2) (hW : PW g) (hL : sy_L h2 Y) (hK : PKr o g) : ∀ a : Nat, (a : Int) < g 0 1 → ∃ F : Nat, (F : Int) < g 0 2 ∧ ∃ j : Nat, (j : Int) < g 130 F ∧ wk_alt g j (g 129 F) = a := by
  have e65 : wk_f Y = g 0 2 := by rw [hL.2.2.1, ← hq.1.2.2.1]
  intro a
  induction a using Nat.strongRecOn with
  | _ a ih =>
    intro ha
    rcases hK.2.2.2.1 a ha with ⟨F, hF, e⟩ | ⟨b, hb, e⟩
    · refine ⟨F, hF, 0, ?_, e⟩
      obtain ⟨-, -, c1, -⟩ := hL.1.2.2.2 F (by omega) (by omega)
      have c1 : 1 ≤ mi_a h2 130 F := c1
      rw [TW_g hq (r := 130) (by decide)] at c1
      show (0 : Int) < g 130 F
      omega
    · obtain ⟨F, hF, j, hj, e2⟩ := ih b hb (by omega)
      have e3 : wk_alt g (j + 1) (g 129 F) = a := by
        rw [wk_alt_succ, e2]
        exact e
      refine ⟨F, hF, j + 1, ?_, e3⟩
      obtain ⟨-, -, -, c2, -⟩ := hL.1.2.2.2 F (by omega) (by omega)
      have c2 : wk_alt (mi_a h2) (mi_a h2 130 F).toNat (mi_a h2 129 F) < 0 := c2
      rw [alt_g hq, TW_g hq (r := 130) (by decide), TW_g hq (r := 129) (by decide)] at c2
      by_cases c : ((j + 1 : Nat) : Int) = g 130 F
      · exfalso
        have : (g 130 F).toNat = j + 1 := by omega
        rw [this, e3] at c2
        omega
      · omega
theorem row_x {v : Int} (hC : wk_C g (g 0 0)) : ∀ (n : Nat) (x : Int), 0 ≤ x → x < g 0 0 → 60 - x ≤ n → v ∈ wk_row g n x → (0 ≤ v ∧ v < g 0 0) ∧ ((∀ w : Nat, (w : Int) < g 0 0 → g 124 w ≠ v) → (0 ≤ g 125 v.toNat → g 125 v.toNat ∈ wk_row g n x) ∧ (0 ≤ g 124 v.toNat → g 124 v.toNat ∈ wk_row g n x)) := by
  have h60 := hC.1
  intro n
  induction n with
  | zero => intro x x0 x1 hn; exfalso; omega
  | succ n ih =>
    intro x x0 x1 hn hv
    have row : wk_row g (n + 1) x = if x < 0 then [] else if 0 ≤ g 124 x.toNat then x :: g 124 x.toNat :: wk_row g n (g 125 x.toNat) else x :: wk_row g n (g 125 x.toNat) := rfl
    rw [if_neg (by omega)] at row
    obtain ⟨k1, k2⟩ := hC.2 x x0 x1
    have hd : ∀ y : Int, 0 ≤ y → y < g 0 0 → x < y → y ∈ wk_row g n y := fun y y0 y1 y2 => by
      cases n with
      | zero => exfalso; omega
      | succ n =>
        have r2 : wk_row g (n + 1) y = if y < 0 then [] else if 0 ≤ g 124 y.toNat then y :: g 124 y.toNat :: wk_row g n (g 125 y.toNat) else y :: wk_row g n (g 125 y.toNat) := rfl
        rw [r2, if_neg (by omega)]
        split
        · exact List.mem_cons_self
        · exact List.mem_cons_self
    have tail : v ∈ wk_row g n (g 125 x.toNat) → 0 ≤ g 125 x.toNat := fun q => by
      by_cases c : 0 ≤ g 125 x.toNat
      · exact c
      · exfalso
        cases n with
        | zero => cases q
        | succ n =>
          unfold wk_row at q
          rw [if_pos (by omega)] at q
          cases q
    rw [row] at hv ⊢
    by_cases c4 : 0 ≤ g 124 x.toNat
    · rw [if_pos c4] at hv ⊢
      rcases List.mem_cons.mp hv with rfl | hv
      · refine ⟨⟨x0, x1⟩, fun _ => ⟨fun q => ?_, fun q => List.mem_cons_of_mem _ List.mem_cons_self⟩⟩
        have := k2 q
        exact List.mem_cons_of_mem _ (List.mem_cons_of_mem _ (hd _ q this.1 this.2.1))
      · rcases List.mem_cons.mp hv with rfl | hv
        · exact ⟨⟨c4, (k1 c4).1⟩, fun q => absurd rfl (q x.toNat (by omega))⟩
        · have t := tail hv
          have b := k2 t
          obtain ⟨i1, i2⟩ := ih _ t b.1 (by omega) hv
          exact ⟨i1, fun q => ⟨fun z => List.mem_cons_of_mem _ (List.mem_cons_of_mem _ ((i2 q).1 z)), fun z => List.mem_cons_of_mem _ (List.mem_cons_of_mem _ ((i2 q).2 z))⟩⟩
    · rw [if_neg c4] at hv ⊢
      rcases List.mem_cons.mp hv with rfl | hv
      · refine ⟨⟨x0, x1⟩, fun _ => ⟨fun q => ?_, fun q => absurd q c4⟩⟩
        have := k2 q
        exact List.mem_cons_of_mem _ (hd _ q this.1 this.2.1)
      · have t := tail hv
        have b := k2 t
        obtain ⟨i1, i2⟩ := ih _ t b.1 (by omega) hv
        exact ⟨i1, fun q => ⟨fun z => List.mem_cons_of_mem _ ((i2 q).1 z), fun z => List.mem_cons_of_mem _ ((i2 q).2 z)⟩⟩
theorem wkC_g (hq : RQ g h2) (hL : sy_L h2 Y) : wk_C g (g 0 0) := by
  have k := wk_L_C hL.1
  have e : wk_u Y = g 0 0 := by rw [hL.2.1]; exact hq.1.1.symm
  rw [e] at k
  unfold wk_C at k ⊢
  rw [TW_g hq (r := 124) (by decide), TW_g hq (r := 125) (by decide)] at k
  exact k
/-- every unit is in a form -/
theorem cov_u (hq : RQ g h2) (hP : PR ow g) (hW : PW g) (hL : sy_L h2 Y) (hK : PKr o g) : ∀ u : Nat, (u : Int) < g 0 0 → ∃ F : Nat, (F : Int) < g 0 2 ∧ fr_of h2 F u := by
  have hC := wkC_g hq hL
  have h60 := hC.1
  have row : ∀ a : Nat, (a : Int) < g 0 1 → ∀ v : Int, v ∈ rr_l g a → ∃ F : Nat, (F : Int) < g 0 2 ∧ fr_of h2 F v := fun a ha v hv => by
    obtain ⟨F, hF, j, hj, e⟩ := cov_a hq hW hL hK a ha
    refine ⟨F, hF, j, by rw [TW_g hq (r := 130) (by decide)]; exact hj, ?_⟩
    rw [alt_g hq, TW_g hq (r := 129) (by decide), e, rr_g hq]
    exact hv
  intro u
  induction u using Nat.strongRecOn with
  | _ u ih =>
    intro hu
    have step : ∀ v : Nat, (v : Int) < g 0 0 → v < u → (∀ w : Nat, (w : Int) < g 0 0 → g 124 w ≠ (v : Int)) → (g 125 v = u ∨ g 124 v = u) → ∃ F : Nat, (F : Int) < g 0 2 ∧ fr_of h2 F u := fun v hv lt nmv e => by
      obtain ⟨F, hF, j, hj, hm⟩ := ih v lt hv
      have hj' : (j : Int) < g 130 F := by rw [TW_g hq (r := 130) (by decide)] at hj; exact hj
      have b := altr hq hW hL hF j hj'
      refine ⟨F, hF, j, hj, ?_⟩
      rw [alt_g hq, TW_g hq (r := 129) (by decide), rr_g hq] at hm ⊢
      obtain ⟨⟨q1, q2⟩, -⟩ := hP.2.2.1 (wk_alt g j (g 129 F)).toNat (by omega)
      have hx : 0 ≤ g 126 (wk_alt g j (g 129 F)).toNat := by
        by_cases c : 0 ≤ g 126 (wk_alt g j (g 129 F)).toNat
        · exact c
        · exfalso
          unfold rr_l wk_row at hm
          rw [if_pos (by omega)] at hm
          cases hm
      obtain ⟨-, r2⟩ := row_x hC 61 _ hx q2 (by omega) hm
      obtain ⟨r3, r4⟩ := r2 nmv
      have ev : ((v : Int)).toNat = v := by omega
      rw [ev] at r3 r4
      rcases e with e | e
      · rw [e] at r3; exact r3 (by omega)
      · rw [e] at r4; exact r4 (by omega)
    rcases hK.2.1 u hu with ⟨a, ha, e⟩ | ⟨v, hv, e⟩
    · refine row a ha u ?_
      unfold rr_l
      have ea : ((a : Int)).toNat = a := by omega
      rw [ea, e]
      unfold wk_row
      rw [if_neg (by omega)]
      split
      · exact List.mem_cons_self
      · exact List.mem_cons_self
    · obtain ⟨k1, k2⟩ := hC.2 v (by omega) hv
      have ev : ((v : Int)).toNat = v := by omega
      rw [ev] at k1 k2
      rcases e with e | e
      · have b := k2 (by omega)
        refine step v hv (by omega) (fun w hw q => ?_) (Or.inl e)
        have := (hK.2.2.1 w hw (by omega)).2
        rw [q, ev] at this
        omega
      · have b := k1 (by omega)
        refine step v hv (by omega) (fun w hw q => ?_) (Or.inr e)
        obtain ⟨m1, -⟩ := hC.2 w (by omega) hw
        have ew : ((w : Int)).toNat = w := by omega
        rw [ew] at m1
        have := (m1 (by omega)).2.2
        rw [q, ev] at this
        omega
end YRW
