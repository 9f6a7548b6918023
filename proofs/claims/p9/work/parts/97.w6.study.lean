/-! the reference's study: the second rounds, with what follows each unit -/
def fr_of (hb : sm_H) (F : Nat) (u : Int) : Prop := ∃ j : Nat, (j : Int) < mi_a hb 130 F ∧ u ∈ rr_l (mi_a hb) (wk_alt (mi_a hb) j (mi_a hb 129 F))
def fo_r (hb : sm_H) (ρ : Int → List Int) (X : sp_X) (A B : sp_F) (h : sm_H) (F : Nat) (u : Int) : Prop := ∃ b, tl (A F) b ∧ tl b (B F) ∧ mx_b h 137 u.toNat = fw_v (mi_a hb) ρ X b u
def rh_ok (hb : sm_H) (ρ : Int → List Int) : Prop := ∀ F : Nat, (F : Int) < mi_f hb 13965 → ∀ j : Nat, (j : Int) < mi_a hb 130 F → ro_ok ρ (rr_l (mi_a hb) (wk_alt (mi_a hb) j (mi_a hb 129 F)))
theorem wk_row_c {g : wk_g} {Y : wk_Y} (hL : wk_L g Y) : ∀ (n : Nat) (u : Int), (u < 0 ∨ u < wk_u Y) → ∀ x ∈ wk_row g n u, (0 ≤ x ∧ x < wk_u Y) ∧ wk_c Y x = wk_c Y u := by
  intro n
  induction n with
  | zero => intro u _ x hx; cases hx
  | succ n ih =>
    intro u hu x hx
    unfold wk_row at hx
    by_cases n0 : u < 0
    · rw [if_pos n0] at hx; cases hx
    · rw [if_neg n0] at hx
      have u1 := hu.resolve_left n0
      obtain ⟨-, a2, a3, -⟩ := hL.2.2.1 u (by omega) u1
      have nx : ∀ x ∈ wk_row g n (g 125 u.toNat), (0 ≤ x ∧ x < wk_u Y) ∧ wk_c Y x = wk_c Y u := by
        intro x hx
        by_cases q : 0 ≤ g 125 u.toNat
        · have a := a3 q
          have b := ih _ (Or.inr a.1) x hx
          exact ⟨b.1, b.2.trans a.2.1⟩
        · cases n with
          | zero => cases hx
          | succ n =>
            unfold wk_row at hx
            rw [if_pos (by omega)] at hx
            cases hx
      by_cases c4 : 0 ≤ g 124 u.toNat
      · rw [if_pos c4] at hx
        rcases List.mem_cons.mp hx with rfl | hx
        · exact ⟨⟨by omega, u1⟩, rfl⟩
        · rcases List.mem_cons.mp hx with rfl | hx
          · have a := a2 c4
            exact ⟨⟨c4, a.1⟩, a.2.1⟩
          · exact nx x hx
      · rw [if_neg c4] at hx
        rcases List.mem_cons.mp hx with rfl | hx
        · exact ⟨⟨by omega, u1⟩, rfl⟩
        · exact nx x hx
theorem fr_c {hb : sm_H} {Y : wk_Y} (hL : wk_L (mi_a hb) Y) {F : Nat} (hF : (F : Int) < wk_f Y) {u : Int} (h : fr_of hb F u) : (0 ≤ u ∧ u < wk_u Y) ∧ wk_c Y u = F := by
  obtain ⟨j, hj, hu⟩ := h
  obtain ⟨-, -, -, -, -, c3⟩ := hL.2.2.2 F (by omega) hF
  have k := (c3 j hj).2.2
  rcases k with k | ⟨k1, k2⟩
  · have k : mi_a hb 126 (wk_alt (mi_a hb) j (mi_a hb 129 F)).toNat < 0 := k
    unfold rr_l wk_row at hu
    rw [if_pos k] at hu
    cases hu
  · have k1 : mi_a hb 126 (wk_alt (mi_a hb) j (mi_a hb 129 F)).toNat < wk_u Y := k1
    have k2 : wk_c Y (mi_a hb 126 (wk_alt (mi_a hb) j (mi_a hb 129 F)).toNat) = F := k2
    have := wk_row_c hL 61 _ (Or.inr k1) u hu
    exact ⟨this.1, this.2.trans k2⟩
theorem rr_l_eq {h h' : sm_H} (e : rv_eq h h') : rr_l (mi_a h') = rr_l (mi_a h) := by
  funext a
  unfold rr_l
  rw [wk_row_cg (e 124 (by decide)) (e 125 (by decide)), e 126 (by decide)]
theorem fw_v_eq {h h' : sm_H} {ρ : Int → List Int} {X : sp_X} (e : rv_eq h h') (b : Int64) (u : Int) : fw_v (mi_a h') ρ X b u = fw_v (mi_a h) ρ X b u := by
  unfold fw_v
  rw [e.p]
section SZF
variable {d : Nat} {hb h0 : sm_H} {Y : wk_Y} {X : sp_X} {Q : Option mi_V → sm_H → Prop} {ρ : Int → List Int}
def sR_I (hb : sm_H) (ρ : Int → List Int) (X : sp_X) (Wk WN : sp_F) (F : Nat) (J : Nat) (h : sm_H) : Prop := sw_le (mi_f hb 13965).toNat Wk (mx_b h 138) ∧ (∀ F' : Nat, F' < F → ∀ u, fr_of hb F' u → fo_r hb ρ X Wk WN h F' u) ∧ ∀ j : Nat, j < J → (j : Int) < mi_a hb 130 F → ∀ u ∈ rr_l (mi_a hb) (wk_alt (mi_a hb) j (mi_a hb 129 F)), fo_r hb ρ X Wk WN h F u
theorem fo_r_fr {A B : sp_F} {h h' : sm_H} {F : Nat} {u : Int} (k : fo_r hb ρ X A B h F u) (e : mx_b h' 137 u.toNat = mx_b h 137 u.toNat) : fo_r hb ρ X A B h' F u := by
  obtain ⟨b, b1, b2, b3⟩ := k
  exact ⟨b, b1, b2, e.trans b3⟩
theorem sz205f {za : Int} {F : Nat} {Wk WN : sp_F} {c : Nat} (hρ : rh_ok hb ρ) (hL : sy_L hb Y) (hSb : ab_Sh sx_sk hb) (hF : (F : Int) < mi_f hb 13965) (oa : mi_in za) (K : ∀ h zb zc, zb = (F : Int) + 1 → mi_in zc → sz_B hb X h0 h → sk_p X (GR (mi_a hb)) c (F + 1) (mx_b h 138) = WN → (mi_f h 13999 = 0 → mx_b h 138 = Wk) → sR_I hb ρ X Wk WN (F + 1) 0 h → me_E (d + 3) 194 190 [some (.inr (.inr 109)), some (.inl za), some (.inl zb), some (.inl zc)] [] h Q) : ∀ (m j : Nat) (zc : Int) (h : sm_H), j + m = (mi_a hb 130 F).toNat → zc = wk_alt (mi_a hb) j (mi_a hb 129 F) → mi_in zc → sz_B hb X h0 h → sk_p X (GR (mi_a hb)) c (F + 1) (sk_f X F (rv_as (mi_a hb) m zc) (mx_b h 138)) = WN → (mi_f h 13999 = 0 → mx_b h 138 = Wk) → sR_I hb ρ X Wk WN F j h → me_E (d + 3) 194 205 [some (.inr (.inr 109)), some (.inl za), some (.inl (F : Int)), some (.inl zc)] [] h Q := by
  have b80 := me_fb (c := 13965) hSb rfl
  have hF' : (F : Int) < wk_f Y := by rw [hL.2.2.1]; exact hF
  obtain ⟨-, -, c1, c2, -, c3⟩ := hL.1.2.2.2 F (by omega) hF'
  have of : mi_in (F : Int) := ⟨by omega, by omega⟩
  intro m
  induction m with
  | zero =>
    intro j zc h hj ezc oc hB hW hk hI
    have ej : j = (mi_a hb 130 F).toNat := by omega
    have neg : zc < 0 := by
      have c2 : wk_alt (mi_a hb) (mi_a hb 130 F).toNat (mi_a hb 129 F) < 0 := c2
      rw [← ej, ← ezc] at c2
      exact c2
    refine mt_stL hB.1 oa of oc ?_ ?_
    · intro k1
      refine ⟨⟨by omega, by omega⟩, fun h1 g1 g2 => ?_⟩
      have e0 := me_nil g2
      subst e0
      refine K h1 _ _ rfl oc hB hW hk ⟨hI.1, fun F1 hF1 u hu => ?_, fun j hj => by omega⟩
      by_cases cF : F1 = F
      · subst cF
        obtain ⟨i, hi, hu⟩ := hu
        exact hI.2.2 i (by omega) hi u hu
      · exact hI.2.1 F1 (by omega) u hu
    · intro k1; exfalso; omega
  | succ m ih =>
    intro j zc h hj ezc oc hB hW hk hI
    have lt : (j : Int) < mi_a hb 130 F := by omega
    have bd := c3 j lt
    have bd : 0 ≤ wk_alt (mi_a hb) j (mi_a hb 129 F) ∧ wk_alt (mi_a hb) j (mi_a hb 129 F) < 80 ∧ (mi_a hb 126 (wk_alt (mi_a hb) j (mi_a hb 129 F)).toNat < 0 ∨ (mi_a hb 126 (wk_alt (mi_a hb) j (mi_a hb 129 F)).toNat < wk_u Y ∧ _)) := bd
    have hr0 := hρ F hF j lt
    rw [← ezc] at bd hr0
    obtain ⟨b1, b2, b3, b4⟩ := id hB
    have e : rv_eq hb h := rv_eq_fr b2 hSb rfl
    have hL1 := sy_L_fr hL hSb b2
    have e63 : mi_f h 13963 = mi_f hb 13963 := me_f (c := 13963) b2 hSb rfl rfl
    refine mt_stL b1 oa of oc ?_ ?_
    · intro k1; exfalso; omega
    · intro k1
      refine ⟨by omega, fun h1 g1 g2 => ?_⟩
      have e0 := me_nil g2
      subst e0
      have hu1 : mi_a h1 126 zc.toNat < 0 ∨ mi_a h1 126 zc.toNat < wk_u Y := by rw [e 126 (by decide)]; rcases bd.2.2 with q | q <;> omega
      have hp1 : ∀ u, 0 ≤ u → u < wk_u Y → rq_ok (rv_p (mi_a h1)) X h1 u := fun u u0 u1 => by rw [e.p]; exact b4 u u0 (by rw [hL1.2.1, e63] at u1; exact u1)
      refine ⟨_, (me_behindx (d := d + 1) (X := X) (zx := mx_b h1 138 F) hL1.1 b1 bd.1 bd.2.1 hu1 hp1).and (me_behindf (d := d + 1) (ρ := ρ) (X := X) (zx := mx_b h1 138 F) (by rw [rr_l_eq e]; exact hr0) hL1.1 b1 bd.1 bd.2.1 hu1 hp1), fun w h2 oww hq => ?_⟩
      obtain ⟨⟨rfl, r2, r3, r4, r5⟩, -, -, -, r6, r7⟩ := hq
      rw [e.l] at r4
      rw [rr_l_eq e] at r6 r7
      have B2 := sz_B_fr hB r2 r3 (fun _ hc => hc)
      have e2 : rv_eq hb h2 := rv_eq_fr B2.2.1 hSb rfl
      refine mt_stM r2 oa of oc ⟨by omega, fun h3 g1 g2 => ?_⟩
      have e0 := me_nil g2
      subst e0
      have e128 : mi_a h3 128 zc.toNat = mi_a hb 128 zc.toNat := by rw [e2 128 (by decide)]
      have lo : tl (Wk F) (mx_b h1 138 F) := hI.1 F (by omega)
      have hi : tl (mx_b h1 138 F) (WN F) := by
        rw [← hW]
        exact tl_tr (sk_f_le (X := X) (n := (mi_f hb 13965).toNat) (f := F) (rv_as (mi_a hb) (m + 1) zc) (mx_b h1 138) F (by omega)) (sk_p_le (X := X) (n := (mi_f hb 13965).toNat) (G := GR (mi_a hb)) c (F + 1) _ F (by omega))
      have new : ∀ u ∈ rr_l (mi_a hb) zc, fo_r hb ρ X Wk WN h3 F u := fun u hu => ⟨_, lo, hi, by rw [r6 u hu, fw_v_eq e]⟩
      have I3 : sR_I hb ρ X Wk WN F (j + 1) h3 := by
        refine ⟨fun i hi => ?_, fun F1 hF1 u hu => ?_, fun i hi1 hi2 u hu => ?_⟩
        · rw [r4]
          exact tl_tr (hI.1 i hi) (tl_l _ _)
        · have k := hI.2.1 F1 hF1 u hu
          refine fo_r_fr k (r7 _ (fun x hx q => ?_))
          have x1 := fr_c hL.1 hF' (u := x) ⟨j, lt, by rw [← ezc]; exact hx⟩
          have x2 := fr_c hL.1 (F := F1) (by omega) hu
          have : x = u := by omega
          rw [this] at x1
          omega
        · by_cases ci : i = j
          · rw [ci, ← ezc] at hu
            exact new u hu
          · have k := hI.2.2 i (by omega) hi2 u hu
            by_cases cu : u ∈ rr_l (mi_a hb) zc
            · exact new u cu
            · refine fo_r_fr k (r7 _ (fun x hx q => ?_))
              have x1 := fr_c hL.1 hF' (u := x) ⟨j, lt, by rw [← ezc]; exact hx⟩
              have x2 := fr_c hL.1 hF' (u := u) ⟨i, hi2, hu⟩
              have : x = u := by omega
              rw [this] at hx
              exact cu hx
      rw [e128]
      refine ih (j + 1) _ h3 (by omega) (by rw [wk_alt_succ, ezc]) (mi_inT _) B2 ?_ (fun q => ?_) I3
      · rw [r4]
        exact hW
      · obtain ⟨x1, x2⟩ := r5 q
        exact x2.trans (hk x1)
theorem sz190f {za : Int} {Wk WN : sp_F} (hρ : rh_ok hb ρ) (hL : sy_L hb Y) (hSb : ab_Sh sx_sk hb) (oa : mi_in za) (oa1 : mi_in (za + 1)) (K : ∀ h q2 q3, (∀ v, q2 = some v → mi_ok v) → (∀ v, q3 = some v → mi_ok v) → sz_B hb X h0 h → mx_b h 138 = WN → (mi_f h 13999 = 0 → mx_b h 138 = Wk) → sR_I hb ρ X Wk WN (mi_f hb 13965).toNat 0 h → me_E (d + 3) 194 169 [some (.inr (.inr 109)), some (.inl (za + 1)), q2, q3] [] h Q) : ∀ (c F : Nat) (q3 : Option mi_V) (h : sm_H), F + c = (mi_f hb 13965).toNat → (∀ v, q3 = some v → mi_ok v) → sz_B hb X h0 h → sk_p X (GR (mi_a hb)) c F (mx_b h 138) = WN → (mi_f h 13999 = 0 → mx_b h 138 = Wk) → sR_I hb ρ X Wk WN F 0 h → me_E (d + 3) 194 190 [some (.inr (.inr 109)), some (.inl za), some (.inl (F : Int)), q3] [] h Q := by
  have b80 := me_fb (c := 13965) hSb rfl
  intro c
  induction c with
  | zero =>
    intro F q3 h hc o3 hB hW hk hI
    have of : mi_in (F : Int) := ⟨by omega, by omega⟩
    have e65 : mi_f h 13965 = mi_f hb 13965 := me_f (c := 13965) hB.2.1 hSb rfl rfl
    refine mt_stK hB.1 oa of o3 ?_ ?_
    · intro b c1
      refine ⟨oa1, fun h1 g1 g2 => ?_⟩
      have e0 := me_nil g2
      subst e0
      have : F = (mi_f hb 13965).toNat := by omega
      rw [this] at hI
      exact K h1 _ _ (me_oi of) o3 hB hW hk hI
    · intro b c1; exfalso; omega
  | succ c ih =>
    intro F q3 h hc o3 hB hW hk hI
    have of : mi_in (F : Int) := ⟨by omega, by omega⟩
    have e65 : mi_f h 13965 = mi_f hb 13965 := me_f (c := 13965) hB.2.1 hSb rfl rfl
    have e : rv_eq hb h := rv_eq_fr hB.2.1 hSb rfl
    refine mt_stK hB.1 oa of o3 ?_ ?_
    · intro b c1; exfalso; omega
    · intro b c1
      refine ⟨by omega, fun h1 g1 g2 => ?_⟩
      have e0 := me_nil g2
      subst e0
      have e129 : mi_a h1 129 ((F : Int)).toNat = mi_a hb 129 F := by rw [e 129 (by decide)]; rfl
      rw [e129]
      exact sz205f (Wk := Wk) (WN := WN) (c := c) hρ hL hSb (by omega) oa (fun h2 zb zc ez oc hB2 hW2 hk2 hI2 => by
        rw [ez]
        exact ih (F + 1) _ h2 (by omega) (me_oi oc) hB2 hW2 hk2 hI2) (mi_a hb 130 F).toNat 0 _ h1 (by omega) rfl (mi_inT _) hB hW hk hI
theorem fo_r_end {A B W : sp_F} {h : sm_H} {F : Nat} {u : Int} (k : fo_r hb ρ X A B h F u) (e1 : A F = W F) (e2 : B F = W F) : mx_b h 137 u.toNat = fw_v (mi_a hb) ρ X (W F) u := by
  obtain ⟨b, b1, b2, b3⟩ := k
  rw [e1] at b1
  rw [e2] at b2
  rw [b3, tl_anti b2 b1]
theorem sz169f {W0 : sp_F} (hρ : rh_ok hb ρ) (hL : sy_L hb Y) (hSb : ab_Sh sx_sk hb) (K : ∀ h j q2 q3, (∀ v, q2 = some v → mi_ok v) → (∀ v, q3 = some v → mi_ok v) → sz_B hb X h0 h → mx_b h 138 = sk_k X (GR (mi_a hb)) (mi_f hb 13965).toNat W0 j → sw_sol X (mi_f hb 13965).toNat (GR (mi_a hb)) (sk_k X (GR (mi_a hb)) (mi_f hb 13965).toNat W0 j) → (∀ F : Nat, (F : Int) < mi_f hb 13965 → ∀ u, fr_of hb F u → mx_b h 137 u.toNat = fw_v (mi_a hb) ρ X (sk_k X (GR (mi_a hb)) (mi_f hb 13965).toNat W0 j F) u) → me_E (d + 3) 194 244 [some (.inr (.inr 109)), some (.inl 0), q2, q3] [] h Q) : ∀ (N k : Nat) (q2 q3 : Option mi_V) (h : sm_H), 900 - k < N → k ≤ 900 → (∀ v, q2 = some v → mi_ok v) → (∀ v, q3 = some v → mi_ok v) → sz_B hb X h0 h → mx_b h 138 = sk_k X (GR (mi_a hb)) (mi_f hb 13965).toNat W0 k → (k = 0 → mi_f h 13999 ≠ 0) → (∀ j, k = j + 1 → (mi_f h 13999 = 0 → sk_k X (GR (mi_a hb)) (mi_f hb 13965).toNat W0 (j + 1) = sk_k X (GR (mi_a hb)) (mi_f hb 13965).toNat W0 j) ∧ ∀ F : Nat, (F : Int) < mi_f hb 13965 → ∀ u, fr_of hb F u → fo_r hb ρ X (sk_k X (GR (mi_a hb)) (mi_f hb 13965).toNat W0 j) (sk_k X (GR (mi_a hb)) (mi_f hb 13965).toNat W0 (j + 1)) h F u) → me_E (d + 3) 194 169 [some (.inr (.inr 109)), some (.inl (k : Int)), q2, q3] [] h Q := by
  have b80 := me_fb (c := 13965) hSb rfl
  intro N
  induction N with
  | zero => intro k q2 q3 h hN; exfalso; omega
  | succ N ih =>
    intro k q2 q3 h hN hk o2 o3 hB hW hc0 hc1
    have oa : mi_in (k : Int) := ⟨by omega, by omega⟩
    refine mt_stJ hB.1 oa o2 o3 ?_ ?_ ?_
    · intro c1 h1 g1 g2
      have e0 := me_nil g2
      subst e0
      cases k with
      | zero => exfalso; omega
      | succ j =>
        have E := sk_k_stop (X := X) (G := GR (mi_a hb)) (n := (mi_f hb 13965).toNat) (W0 := W0) (k := j) (by omega)
        exact K h1 (j + 1) q2 q3 o2 o3 hB hW (sk_sol (sk_k_stop (by omega))) (fun F hF u hu => fo_r_end ((hc1 j rfl).2 F hF u hu) (E F (by omega)).symm rfl)
    · intro b c1 c2 h1 g1 g2
      have e0 := me_nil g2
      subst e0
      cases k with
      | zero => exact absurd c2 (hc0 rfl)
      | succ j =>
        have E := (hc1 j rfl).1 c2
        exact K h1 j q2 q3 o2 o3 hB (hW.trans E) (sk_sol (fun i hi => congrFun E i)) (fun F hF u hu => fo_r_end ((hc1 j rfl).2 F hF u hu) rfl (congrFun E F))
    · intro b c1 c2 h1 s1 s2 s3
      have B1 := sz_B_fr hB s1 s3 (fun c hc => ab_swr_ok (by decide) hc)
      have e81 : mx_b h1 138 = mx_b h 138 := funext fun i => me_b (k := 138) s3 hB.1 rfl rfl
      refine sz190f (WN := sk_k X (GR (mi_a hb)) (mi_f hb 13965).toNat W0 (k + 1)) (Wk := sk_k X (GR (mi_a hb)) (mi_f hb 13965).toNat W0 k) hρ hL hSb oa ⟨by omega, by omega⟩ (fun h2 q2 q3 o2 o3 hB2 hW2 hk2 hI2 => ?_) (mi_f hb 13965).toNat 0 _ h1 (by omega) o3 B1 ?_ (fun _ => by rw [e81]; exact hW) ⟨fun i hi => by rw [e81, hW]; exact tl_refl _, fun F' hF' => by omega, fun j hj => by omega⟩
      · have ek : (k : Int) + 1 = ((k + 1 : Nat) : Int) := by omega
        rw [ek]
        refine ih (k + 1) _ _ h2 (by omega) (by omega) o2 o3 hB2 hW2 (fun q => by omega) (fun j ej => ?_)
        have : j = k := by omega
        subst this
        exact ⟨fun q => hW2.symm.trans (hk2 q), fun F hF u hu => hI2.2.1 F (by omega) u hu⟩
      · rw [e81, hW]
        rfl
end SZF
