/-! the class's Sets: spreadFollows, with what follows each part -/
def cv_D (hb : sm_H) : Prop := ∀ F F' : Nat, F < 70 → F' < 70 → ∀ u : Int, cv_of hb F u → cv_of hb F' u → F = F'
def fo_b (hb : sm_H) (X : sp_X) (A B : sp_F) (h : sm_H) (F u : Nat) : Prop := ∃ b, tl (A F) b ∧ tl b (B F) ∧ mx_b h 91 u = pf_v hb X b u
def sF_Q (hb : sm_H) (X : sp_X) (W0 : sp_F) (h : sm_H) (w : Option mi_V) (h' : sm_H) : Prop := w = none ∧ ab_Sh sx_sk h' ∧ ab_Fr si_W h h' ∧ ∃ j, mx_b h' 81 = sk_k X (GC hb) 70 W0 j ∧ sw_sol X 70 (GC hb) (sk_k X (GC hb) 70 W0 j) ∧ ∀ F : Nat, F < 70 → ∀ u : Nat, cv_of hb F u → mx_b h' 91 u = pf_v hb X (sk_k X (GC hb) 70 W0 j F) u
section SVG
variable {d : Nat} {hb h0 : sm_H} {U : Int} {X : sp_X} {W0 : sp_F}
theorem fo_fr {A B : sp_F} {h h' : sm_H} {F u : Nat} (k : fo_b hb X A B h F u) (e : mx_b h' 91 u = mx_b h 91 u) : fo_b hb X A B h' F u := by
  obtain ⟨b, b1, b2, b3⟩ := k
  exact ⟨b, b1, b2, e.trans b3⟩
/-- so far in this turn -/
def sF_I (hb : sm_H) (X : sp_X) (Wk WN : sp_F) (F : Nat) (as : List Int) (h : sm_H) : Prop := sw_le 70 Wk (mx_b h 81) ∧ (∀ F' : Nat, F' < F → ∀ u : Nat, cv_of hb F' u → fo_b hb X Wk WN h F' u) ∧ ∀ a ∈ as, ∀ u : Nat, (u : Int) ∈ cv_l hb a → fo_b hb X Wk WN h F u
theorem sF_alts {zn : Int} {F : Nat} {Q : Option mi_V → sm_H → Prop} {Wk WN : sp_F} (hSb : ab_Sh sx_sk hb) (hF : cv_F hb U) (hD : cv_D hb) (h01 : sp_01 70 X) (hF70 : F < 70) (on : mi_in zn) (K : ∀ h zf za zk, zf = (F : Int) + 1 → mi_in za → mi_in zk → sv_B hb X h0 h → sk_p X (GC hb) (69 - F) (F + 1) (mx_b h 81) = WN → (mi_f h 9999 = 0 → mx_b h 81 = Wk) → sF_I hb X Wk WN F (cv_A hb F) h → me_E (d + 6) 76 27 [some (.inr (.inr 78)), some (.inl zn), some (.inl zf), some (.inl za), some (.inl zk)] [] h Q) : ∀ (m : Nat) (as : List Int) (za zk : Int) (h : sm_H), (m : Int) + zk = cv_n hb F → 0 ≤ zk → mi_in za → cv_al hb U m za → as ++ cv_as hb m za = cv_A hb F → sv_B hb X h0 h → sk_p X (GC hb) (69 - F) (F + 1) (sk_f X F ((cv_as hb m za).map (fun a => (cv_l hb a).map (cv_p hb))) (mx_b h 81)) = WN → (mi_f h 9999 = 0 → mx_b h 81 = Wk) → sF_I hb X Wk WN F as h → me_E (d + 6) 76 48 [some (.inr (.inr 78)), some (.inl zn), some (.inl (F : Int)), some (.inl za), some (.inl zk)] [] h Q := by
  have cn : cv_n hb F ≤ 6 := by unfold cv_n; omega
  have of : mi_in (F : Int) := ⟨by omega, by omega⟩
  intro m
  induction m with
  | zero =>
    intro as za zk h hN k0 oa hal eas hB hW hc hI
    have ok : mi_in zk := ⟨by omega, by omega⟩
    obtain ⟨b1, b2, b3, b4⟩ := id hB
    have e64 : mi_a h 64 ((F : Int)).toNat = mi_a hb 64 F := by rw [b3.2.1]; rfl
    have ea : as = cv_A hb F := by rw [← eas]; exact (List.append_nil as).symm
    rw [ea] at hI
    refine mt_svD b1 on of oa ok ?_ ?_ ?_ ?_ ?_ ?_ ?_ ?_ ?_
    · intro c1; exfalso; omega
    · intro c1; exfalso; omega
    · intro c1; exfalso; omega
    · intro c1 c2; exfalso; omega
    · intro c1 c2; exfalso; omega
    · intro c1 c2; exfalso; omega
    · intro c1 c2 c3
      refine ⟨by omega, fun h1 g1 g2 => ?_⟩
      have e0 := me_nil g2
      subst e0
      exact K h1 _ _ _ rfl oa ok hB hW hc hI
    · intro c1 c2 c3 c4
      refine ⟨by omega, fun h1 g1 g2 => ?_⟩
      have e0 := me_nil g2
      subst e0
      exact K h1 _ _ _ rfl oa ok hB hW hc hI
    · intro c1 c2 c3 c4
      exfalso
      rw [e64] at c3
      unfold cv_n at hN
      omega
  | succ m ih =>
    intro as za zk h hN k0 oa hal eas hB hW hc hI
    have ok : mi_in zk := ⟨by omega, by omega⟩
    obtain ⟨b1, b2, b3, b4⟩ := id hB
    obtain ⟨⟨a0, a1⟩, hp, hal'⟩ := hal
    have e64 : mi_a h 64 ((F : Int)).toNat = mi_a hb 64 F := by rw [b3.2.1]; rfl
    have lt : zk < mi_a hb 64 F := by unfold cv_n at hN; omega
    have eas' : (as ++ [za]) ++ cv_as hb m (mi_a hb 66 za.toNat) = cv_A hb F := by
      rw [← eas, List.append_assoc]
      all_goals rfl
    have hz : za ∈ cv_A hb F := by rw [← eas']; exact List.mem_append.mpr (Or.inl (List.mem_append.mpr (Or.inr (List.mem_singleton.mpr rfl))))
    have hof : ∀ u ∈ cv_l hb za, cv_of hb F u := fun u hu => ⟨za, hz, hu⟩
    refine mt_svD b1 on of oa ok ?_ ?_ ?_ ?_ ?_ ?_ ?_ ?_ ?_
    · intro c1; exfalso; omega
    · intro c1; exfalso; omega
    · intro c1; exfalso; omega
    · intro c1 c2; exfalso; omega
    · intro c1 c2; exfalso; omega
    · intro c1 c2; exfalso; omega
    · intro c1 c2 c3
      exfalso
      rw [e64] at c3
      omega
    · intro c1 c2 c3 c4; exfalso; omega
    · intro c1 c2 c3 c4
      refine ⟨by omega, fun h1 g1 g2 => ?_⟩
      have e0 := me_nil g2
      subst e0
      have hpt : pt_all hb X h1 (cv_l hb za) := fun u hu => by
        have ho := hof u hu
        have u0 := (cv_of_in hF hF70 ho).1
        refine b4 F hF70 u.toNat ?_
        rw [Int.toNat_of_nonneg u0]
        exact ho
      refine ⟨_, (me_spreadInto (d := d) (hb := hb) (X := X) (U := U) (zx := mx_b h1 81 F) hSb hF.1 h01 a0 a1 hp hpt b3 b1).and (me_spreadIntoF (d := d) (hb := hb) (X := X) (U := U) (zx := mx_b h1 81 F) hSb hF.1 h01 a0 a1 hp hpt b3 b1), fun w h2 oww hq => ?_⟩
      obtain ⟨⟨rfl, r2, r3, r4, r5⟩, -, -, -, f1, f2⟩ := hq
      have B2 := sv_B_fr hB r2 r3
      have lo : tl (Wk F) (mx_b h1 81 F) := hI.1 F hF70
      have hi : tl (mx_b h1 81 F) (WN F) := by
        rw [← hW]
        exact tl_tr (sk_f_le (n := 70) _ _ F hF70) (sk_p_le (n := 70) _ _ _ F hF70)
      have I2 : sF_I hb X Wk WN F (as ++ [za]) h2 := by
        refine ⟨fun i hi' => ?_, fun F' hF' u hu => ?_, fun a ha u hu => ?_⟩
        · rw [r4]
          exact tl_tr (hI.1 i hi') (tl_l _ _)
        · refine fo_fr (hI.2.1 F' hF' u hu) (f2 u (fun q => ?_))
          have := hD F F' hF70 (by omega) u (hof u q) hu
          omega
        · by_cases cm : (u : Int) ∈ cv_l hb za
          · exact ⟨_, lo, hi, f1 u cm⟩
          · rcases List.mem_append.mp ha with ha | ha
            · exact fo_fr (hI.2.2 a ha u hu) (f2 u cm)
            · rw [List.mem_singleton.mp ha] at hu
              exact absurd hu cm
      refine mt_svE r2 on of oa ok ?_ ?_ ?_
      · intro q1; exfalso; omega
      · intro q1 q2; exfalso; omega
      · intro q1 q2
        refine ⟨by omega, fun h3 g1 g2 => ?_⟩
        have e0 := me_nil g2
        subst e0
        rw [B2.2.2.1.2.2.2.1]
        refine ih (as ++ [za]) _ (zk + 1) h3 (by omega) (by omega) (mi_inT _) hal' eas' B2 ?_ (fun q => ?_) I2
        · rw [r4]
          exact hW
        · obtain ⟨x1, x2⟩ := r5 q
          exact x2.trans (hc x1)
theorem sF_forms {zn : Int} {Q : Option mi_V → sm_H → Prop} {Wk WN : sp_F} (hSb : ab_Sh sx_sk hb) (hF : cv_F hb U) (hD : cv_D hb) (h01 : sp_01 70 X) (on : mi_in zn) (on1 : mi_in (zn + 1)) (K : ∀ h q2 q3 q4, (∀ v, q2 = some v → mi_ok v) → (∀ v, q3 = some v → mi_ok v) → (∀ v, q4 = some v → mi_ok v) → sv_B hb X h0 h → mx_b h 81 = WN → (mi_f h 9999 = 0 → mx_b h 81 = Wk) → sF_I hb X Wk WN 70 [] h → me_E (d + 6) 76 7 [some (.inr (.inr 78)), some (.inl (zn + 1)), q2, q3, q4] [] h Q) : ∀ (c F : Nat) (q3 q4 : Option mi_V) (h : sm_H), F + c = 70 → (∀ v, q3 = some v → mi_ok v) → (∀ v, q4 = some v → mi_ok v) → sv_B hb X h0 h → sk_p X (GC hb) c F (mx_b h 81) = WN → (mi_f h 9999 = 0 → mx_b h 81 = Wk) → sF_I hb X Wk WN F [] h → me_E (d + 6) 76 27 [some (.inr (.inr 78)), some (.inl zn), some (.inl (F : Int)), q3, q4] [] h Q := by
  intro c
  induction c with
  | zero =>
    intro F q3 q4 h hc o3 o4 hB hW hk hI
    have of : mi_in (F : Int) := ⟨by omega, by omega⟩
    have eF : F = 70 := by omega
    rw [eF] at hI
    refine mt_svC hB.1 on of o3 o4 ?_ ?_ ?_
    · intro c1
      refine ⟨on1, fun h1 g1 g2 => ?_⟩
      have e0 := me_nil g2
      subst e0
      exact K h1 _ _ _ (me_oi of) o3 o4 hB hW hk hI
    · intro c1 c2; exfalso; omega
    · intro c1 c2; exfalso; omega
  | succ c ih =>
    intro F q3 q4 h hc o3 o4 hB hW hk hI
    have of : mi_in (F : Int) := ⟨by omega, by omega⟩
    refine mt_svC hB.1 on of o3 o4 ?_ ?_ ?_
    · intro c1; exfalso; omega
    · intro c1 c2; exfalso; omega
    · intro c1 c2
      refine ⟨by omega, fun h1 g1 g2 => ?_⟩
      have e0 := me_nil g2
      subst e0
      have e63 : mi_a h1 63 ((F : Int)).toNat = mi_a hb 63 F := by rw [hB.2.2.1.1]; rfl
      rw [e63]
      have ec : 69 - F = c := by omega
      refine sF_alts (F := F) (WN := WN) (Wk := Wk) hSb hF hD h01 (by omega) on (fun h2 zf za zk ez oa ok hB2 hW2 hk2 hI2 => ?_) (cv_n hb F) [] _ 0 h1 (by omega) (by decide) (mi_inT _) (hF.2 F (by omega)) rfl hB (by rw [ec]; exact hW) hk hI
      rw [ez]
      rw [ec] at hW2
      refine ih (F + 1) _ _ h2 (by omega) (me_oi oa) (me_oi ok) hB2 hW2 hk2 ⟨hI2.1, fun F' hF' u hu => ?_, fun a ha => by cases ha⟩
      by_cases cF : F' = F
      · rw [cF] at hu ⊢
        obtain ⟨a, ha, hu⟩ := hu
        exact hI2.2.2 a ha u hu
      · exact hI2.2.1 F' (by omega) u hu
theorem fo_end {A B W : sp_F} {h : sm_H} {F u : Nat} (k : fo_b hb X A B h F u) (e1 : A F = W F) (e2 : B F = W F) : mx_b h 91 u = pf_v hb X (W F) u := by
  obtain ⟨b, b1, b2, b3⟩ := k
  rw [e1] at b1
  rw [e2] at b2
  rw [b3, tl_anti b2 b1]
theorem sF_loop (hSb : ab_Sh sx_sk hb) (hF : cv_F hb U) (hD : cv_D hb) (h01 : sp_01 70 X) : ∀ (N k : Nat) (q2 q3 q4 : Option mi_V) (h : sm_H), 100000 - k < N → k ≤ 100000 → (∀ v, q2 = some v → mi_ok v) → (∀ v, q3 = some v → mi_ok v) → (∀ v, q4 = some v → mi_ok v) → sv_B hb X h0 h → mx_b h 81 = sk_k X (GC hb) 70 W0 k → (k = 0 → mi_f h 9999 ≠ 0) → (∀ j, k = j + 1 → (mi_f h 9999 = 0 → sk_k X (GC hb) 70 W0 (j + 1) = sk_k X (GC hb) 70 W0 j) ∧ ∀ F : Nat, F < 70 → ∀ u : Nat, cv_of hb F u → fo_b hb X (sk_k X (GC hb) 70 W0 j) (sk_k X (GC hb) 70 W0 (j + 1)) h F u) → me_E (d + 6) 76 7 [some (.inr (.inr 78)), some (.inl (k : Int)), q2, q3, q4] [] h (sF_Q hb X W0 h0) := by
  intro N
  induction N with
  | zero => intro k q2 q3 q4 h hN; exfalso; omega
  | succ N ih =>
    intro k q2 q3 q4 h hN hk o2 o3 o4 hB hW hc0 hc1
    have on : mi_in (k : Int) := ⟨by omega, by omega⟩
    refine mt_svB hB.1 on o2 o3 o4 ?_ ?_ ?_
    · intro b c1 h1 g1 g2
      have e0 := me_nil g2
      subst e0
      cases k with
      | zero => exact absurd c1 (hc0 rfl)
      | succ j =>
        have E := (hc1 j rfl).1 c1
        exact ⟨rfl, hB.1, hB.2.1, j, hW.trans E, sk_sol (fun i hi => congrFun E i), fun F hF' u hu => fo_end ((hc1 j rfl).2 F hF' u hu) rfl (congrFun E F)⟩
    · intro b c1 c2 h1 g1 g2
      have e0 := me_nil g2
      subst e0
      have hk0 : k = 99999 + 1 := by omega
      exact ⟨rfl, hB.1, hB.2.1, k, hW, sk_sol (sk_k_stop (by omega)), fun F hF' u hu => fo_end ((hc1 99999 hk0).2 F hF' u hu) (by rw [hk0]; exact (sk_k_stop (n := 70) (k := 99999) (by decide) F hF').symm) (by rw [hk0])⟩
    · intro b c1 c2 h1 s1 s2 s3
      have F1 : ab_Fr si_W h h1 := s3.wide (fun c hc => ab_swr_ok (by decide) hc)
      have B1 := sv_B_fr hB s1 F1
      have e81 : mx_b h1 81 = mx_b h 81 := funext fun i => me_b (k := 81) s3 hB.1 rfl rfl
      refine sF_forms (WN := sk_k X (GC hb) 70 W0 (k + 1)) (Wk := sk_k X (GC hb) 70 W0 k) hSb hF hD h01 on ⟨by omega, by omega⟩ (fun h2 q2 q3 q4 o2 o3 o4 hB2 hW2 hk2 hI2 => ?_) 70 0 _ _ h1 rfl o3 o4 B1 ?_ (fun _ => by rw [e81]; exact hW) ⟨fun i hi => by rw [e81, hW]; exact tl_refl _, fun F' hF' => by omega, fun a ha => by cases ha⟩
      · have ek : (k : Int) + 1 = ((k + 1 : Nat) : Int) := by omega
        rw [ek]
        refine ih (k + 1) _ _ _ h2 (by omega) (by omega) o2 o3 o4 hB2 hW2 (fun q => by omega) (fun j ej => ?_)
        have : j = k := by omega
        subst this
        exact ⟨fun q => hW2.symm.trans (hk2 q), fun F hF' u hu => hI2.2.1 F hF' u hu⟩
      · rw [e81, hW]
        rfl
theorem me_spreadFollowsF {h : sm_H} (hSb : ab_Sh sx_sk hb) (hF : cv_F hb U) (hD : cv_D hb) (h01 : sp_01 70 X) (hS : ab_Sh sx_sk h) (e : cv_eq hb h) (hpt : ∀ F : Nat, F < 70 → ∀ u : Nat, cv_of hb F u → pt_ok (cv_p hb) X h u) : me_E (d + 6) 76 0 [some (.inr (.inr 78)), none, none, none, none] [] h (sF_Q hb X (mx_b h 81) h) := by
  refine mt_svA hS (fun h1 s1 s2 s3 => ?_)
  have F1 : ab_Fr si_W h h1 := s3.wide (fun c hc => ab_swr_ok (by decide) hc)
  exact sF_loop hSb hF hD h01 100001 0 none none none h1 (by decide) (by decide) me_on me_on me_on (sv_B_fr ⟨hS, ab_Fr.refl, e, hpt⟩ s1 F1) (funext fun i => me_b (k := 81) s3 hS rfl rfl) (fun _ => by omega) (fun j ej => by omega)
end SVG
