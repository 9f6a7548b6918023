/-! the class's Sets: directors -/
def cv_E (hb : sm_H) : Prop := ∀ F F' : Nat, F < 70 → F' < 70 → ∀ a : Int, a ∈ cv_A hb F → a ∈ cv_A hb F' → F = F'
def dr_v (h : sm_H) (F a : Nat) : Int64 := mx_b h 85 a ||| (if mi_a h 84 a = 1 then mx_b h 81 F else 0)
def fd_Q (hb h : sm_H) (w : Option mi_V) (h' : sm_H) : Prop := w = none ∧ ab_Sh sx_sk h' ∧ ab_Fr [(11264, 11265)] h h' ∧ ∀ F : Nat, F < 70 → ∀ a ∈ cv_A hb F, mx_b h' 88 a.toNat = dr_v h F a.toNat
section FDR
variable {d : Nat} {hb h0 : sm_H} {U : Int}
def fd_I (hb h0 : sm_H) (F : Nat) (as : List Int) (h : sm_H) : Prop := ab_Sh sx_sk h ∧ ab_Fr [(11264, 11265)] h0 h ∧ (∀ F' : Nat, F' < F → ∀ a ∈ cv_A hb F', mx_b h 88 a.toNat = dr_v h0 F' a.toNat) ∧ ∀ a ∈ as, mx_b h 88 a.toNat = dr_v h0 F a.toNat
theorem fd_alts {F : Nat} {Q : Option mi_V → sm_H → Prop} (hS0 : ab_Sh sx_sk h0) (e : cv_eq hb h0) (hF : cv_F hb U) (hE : cv_E hb) (hF70 : F < 70) (K : ∀ h za zk q4 q5, mi_in za → mi_in zk → (∀ v, q4 = some v → mi_ok v) → (∀ v, q5 = some v → mi_ok v) → fd_I hb h0 F (cv_A hb F) h → me_E (d + 6) 79 2 [some (.inr (.inr 78)), some (.inl ((F : Int) + 1)), some (.inl za), some (.inl zk), q4, q5] [] h Q) : ∀ (m : Nat) (as : List Int) (za zk : Int) (q4 q5 : Option mi_V) (h : sm_H), (m : Int) + zk = cv_n hb F → 0 ≤ zk → mi_in za → (∀ v, q4 = some v → mi_ok v) → (∀ v, q5 = some v → mi_ok v) → cv_al hb U m za → as ++ cv_as hb m za = cv_A hb F → fd_I hb h0 F as h → me_E (d + 6) 79 22 [some (.inr (.inr 78)), some (.inl (F : Int)), some (.inl za), some (.inl zk), q4, q5] [] h Q := by
  have cn : cv_n hb F ≤ 6 := by unfold cv_n; omega
  have of : mi_in (F : Int) := ⟨by omega, by omega⟩
  have eF : ((F : Int)).toNat = F := rfl
  intro m
  induction m with
  | zero =>
    intro as za zk q4 q5 h hN k0 oa o4 o5 hal eas hI
    have ok : mi_in zk := ⟨by omega, by omega⟩
    obtain ⟨i1, i2, i3, i4⟩ := id hI
    have e64 : mi_a h 64 F = mi_a hb 64 F := by rw [me_a (k := 64) i2 hS0 rfl rfl, e.2.1]
    have ea : as = cv_A hb F := by rw [← eas]; exact (List.append_nil as).symm
    rw [ea] at hI
    have fin : ∀ h1, ab_Fr [] h h1 → me_E (d + 6) 79 2 [some (.inr (.inr 78)), some (.inl ((F : Int) + 1)), some (.inl za), some (.inl zk), q4, q5] [] h1 Q := fun h1 g2 => by
      have e0 := me_nil g2
      subst e0
      exact K h1 za zk q4 q5 oa ok o4 o5 hI
    refine mt_yfdC i1 of oa ok o4 o5 ?_ ?_ ?_ ?_ ?_ ?_ ?_ ?_ ?_ ?_ ?_ ?_ ?_ ?_ ?_ ?_ ?_ ?_
    · intro c1; exfalso; omega
    · intro c1; exfalso; omega
    · intro c1; exfalso; omega
    · intro c1; exfalso; omega
    · intro c1; exfalso; omega
    · intro c1; exfalso; omega
    · intro c1 c2; exfalso; omega
    · intro c1 c2; exfalso; omega
    · intro c1 c2; exfalso; omega
    · intro c1 c2; exfalso; omega
    · intro c1 c2; exfalso; omega
    · intro c1 c2; exfalso; omega
    · intro c1 c2 c3; exact ⟨by omega, fun h1 g1 g2 => fin h1 g2⟩
    · intro c1 c2 c3 c4; exact ⟨by omega, fun h1 g1 g2 => fin h1 g2⟩
    · intro c1 c2 c3 c4; exfalso; rw [eF, e64] at c3; unfold cv_n at hN; omega
    · intro c1 c2 c3 c4; exfalso; rw [eF, e64] at c3; unfold cv_n at hN; omega
    · intro c1 c2 c3 c4; exfalso; rw [eF, e64] at c3; unfold cv_n at hN; omega
    · intro c1 c2 c3 c4; exfalso; rw [eF, e64] at c3; unfold cv_n at hN; omega
  | succ m ih =>
    intro as za zk q4 q5 h hN k0 oa o4 o5 hal eas hI
    have ok : mi_in zk := ⟨by omega, by omega⟩
    obtain ⟨i1, i2, i3, i4⟩ := id hI
    obtain ⟨⟨a0, a1⟩, hp, hal'⟩ := hal
    have e64 : mi_a h 64 F = mi_a hb 64 F := by rw [me_a (k := 64) i2 hS0 rfl rfl, e.2.1]
    have lt : zk < mi_a hb 64 F := by unfold cv_n at hN; omega
    have eas' : (as ++ [za]) ++ cv_as hb m (mi_a hb 66 za.toNat) = cv_A hb F := by
      rw [← eas, List.append_assoc]
      all_goals rfl
    have hz : za ∈ cv_A hb F := by rw [← eas']; exact List.mem_append.mpr (Or.inl (List.mem_append.mpr (Or.inr (List.mem_singleton.mpr rfl))))
    have e84 : mi_a h 84 za.toNat = mi_a h0 84 za.toNat := me_a (k := 84) i2 hS0 rfl rfl
    have e85 : mx_b h 85 za.toNat = mx_b h0 85 za.toNat := me_b (k := 85) i2 hS0 rfl rfl
    have e81 : mx_b h 81 F = mx_b h0 81 F := me_b (k := 81) i2 hS0 rfl rfl
    have e66 : mi_a h 66 za.toNat = mi_a hb 66 za.toNat := by rw [me_a (k := 66) i2 hS0 rfl rfl, e.2.2.2.1]
    have go : ∀ (zb : Int64) h1, ab_Fr [] h h1 → zb = (if mi_a h0 84 za.toNat = 1 then mx_b h0 81 F else 0) → me_E (d + 6) 79 69 [some (.inr (.inr 78)), some (.inl (F : Int)), some (.inl za), some (.inl zk), some (.inr (.inl zb)), none] [] h1 Q := fun zb h1 g2 ez => by
      have e0 := me_nil g2
      subst e0
      refine mt_yfdD i1 of oa ok (fun q => by exfalso; omega) (fun q1 q2 => by exfalso; omega) (fun q1 q2 => ⟨by omega, fun h2 s1 s2 s3 => ?_⟩)
      rw [e66]
      refine ih (as ++ [za]) _ (zk + 1) _ _ h2 (by omega) (by omega) (mi_inT _) (fun v q => by cases q; trivial) me_on hal' eas' ⟨s1, i2.trans s3, fun F' hF' a ha => ?_, fun a ha => ?_⟩
      · have b0 := (cv_as_in _ _ (hF.2 F' (by omega)) a ha).1.1
        have na : a.toNat ≠ za.toNat := fun q => by
          have : a = za := by omega
          rw [this] at ha
          have := hE F F' hF70 (by omega) za hz ha
          omega
        rw [s2, if_neg na]
        exact i3 F' hF' a ha
      · by_cases c : a.toNat = za.toNat
        · rw [s2, if_pos c, c, e85, ez]
          rfl
        · rcases List.mem_append.mp ha with ha | ha
          · rw [s2, if_neg c]
            exact i4 a ha
          · rw [List.mem_singleton.mp ha] at c
            exact absurd rfl c
    refine mt_yfdC i1 of oa ok o4 o5 ?_ ?_ ?_ ?_ ?_ ?_ ?_ ?_ ?_ ?_ ?_ ?_ ?_ ?_ ?_ ?_ ?_ ?_
    · intro c1; exfalso; omega
    · intro c1; exfalso; omega
    · intro c1; exfalso; omega
    · intro c1; exfalso; omega
    · intro c1; exfalso; omega
    · intro c1; exfalso; omega
    · intro c1 c2; exfalso; omega
    · intro c1 c2; exfalso; omega
    · intro c1 c2; exfalso; omega
    · intro c1 c2; exfalso; omega
    · intro c1 c2; exfalso; omega
    · intro c1 c2; exfalso; omega
    · intro c1 c2 c3; exfalso; rw [eF, e64] at c3; omega
    · intro c1 c2 c3 c4; exfalso; omega
    · intro c1 c2 c3 c4 c5; exfalso; omega
    · intro c1 c2 c3 c4 c5 c6; exfalso; omega
    · intro c1 c2 c3 c4 c5 c6 c7
      exact ⟨by omega, fun h1 g1 g2 => go _ h1 g2 (by rw [← e84, if_neg c7]; rfl)⟩
    · intro c1 c2 c3 c4 c5 c6 c7
      exact ⟨by omega, fun h1 g1 g2 => go _ h1 g2 (by rw [← e84, if_pos c7]; exact e81)⟩
theorem fd_forms (hS0 : ab_Sh sx_sk h0) (e : cv_eq hb h0) (hF : cv_F hb U) (hE : cv_E hb) : ∀ (c F : Nat) (q2 q3 q4 q5 : Option mi_V) (h : sm_H), F + c = 70 → (∀ v, q2 = some v → mi_ok v) → (∀ v, q3 = some v → mi_ok v) → (∀ v, q4 = some v → mi_ok v) → (∀ v, q5 = some v → mi_ok v) → fd_I hb h0 F [] h → me_E (d + 6) 79 2 [some (.inr (.inr 78)), some (.inl (F : Int)), q2, q3, q4, q5] [] h (fd_Q hb h0) := by
  intro c
  induction c with
  | zero =>
    intro F q2 q3 q4 q5 h hc o2 o3 o4 o5 hI
    have of : mi_in (F : Int) := ⟨by omega, by omega⟩
    refine mt_yfdB hI.1 of o2 o3 o4 o5 (fun c1 h1 g1 g2 => ?_) (fun c1 c2 => by exfalso; omega) (fun c1 c2 => by exfalso; omega)
    have e0 := me_nil g2
    subst e0
    exact ⟨rfl, hI.1, hI.2.1, fun F' hF' a ha => hI.2.2.1 F' (by omega) a ha⟩
  | succ c ih =>
    intro F q2 q3 q4 q5 h hc o2 o3 o4 o5 hI
    have of : mi_in (F : Int) := ⟨by omega, by omega⟩
    refine mt_yfdB hI.1 of o2 o3 o4 o5 (fun c1 => by exfalso; omega) (fun c1 c2 => by exfalso; omega) (fun c1 c2 => ⟨by omega, fun h1 g1 g2 => ?_⟩)
    have e0 := me_nil g2
    subst e0
    have e63 : mi_a h1 63 ((F : Int)).toNat = mi_a hb 63 F := by
      show mi_a h1 63 F = _
      rw [me_a (k := 63) hI.2.1 hS0 rfl rfl, e.1]
    rw [e63]
    refine fd_alts (F := F) hS0 e hF hE (by omega) (fun h2 za zk q4 q5 oa ok o4 o5 hI2 => ?_) (cv_n hb F) [] _ 0 q4 q5 h1 (by omega) (by decide) (mi_inT _) o4 o5 (hF.2 F (by omega)) rfl hI
    refine ih (F + 1) _ _ q4 q5 h2 (by omega) (me_oi oa) (me_oi ok) o4 o5 ⟨hI2.1, hI2.2.1, fun F' hF' a ha => ?_, fun a ha => by cases ha⟩
    by_cases cF : F' = F
    · rw [cF] at ha ⊢
      exact hI2.2.2.2 a ha
    · exact hI2.2.2.1 F' (by omega) a ha
theorem me_findDirectors (hS0 : ab_Sh sx_sk h0) (e : cv_eq hb h0) (hF : cv_F hb U) (hE : cv_E hb) : me_E (d + 6) 79 0 [some (.inr (.inr 78)), none, none, none, none, none] [] h0 (fd_Q hb h0) := by
  refine mt_yfdA hS0 (fun h1 g1 g2 => ?_)
  have e0 := me_nil g2
  subst e0
  exact fd_forms hS0 e hF hE 70 0 none none none none h1 rfl me_on me_on me_on me_on ⟨hS0, ab_Fr.refl, fun F' hF' => by omega, fun a ha => by cases ha⟩
end FDR
