/-! the reference's study, exactly: what follows -/
theorem s277x {d : Nat} {h0 : sm_H} : ∀ (N : Nat) (za : Int) (q2 q3 : Option mi_V) (h : sm_H), 10 - za < N → 0 ≤ za → za ≤ 10 → (∀ v, q2 = some v → mi_ok v) → (∀ v, q3 = some v → mi_ok v) → ab_Sh sx_sk h → ab_Fr [(14848, 14849)] h0 h → me_E (d + 3) 194 277 [some (.inr (.inr 109)), some (.inl za), q2, q3] [] h (fun w h' => w = none ∧ ab_Sh sx_sk h' ∧ ab_Fr [(14848, 14849)] h0 h') := by
  intro N
  induction N with
  | zero => intro za q2 q3 h hN _ _; exfalso; omega
  | succ N ih =>
    intro za q2 q3 h hN a0 a1 o2 o3 hS hF
    have oa : mi_in za := ⟨by omega, by omega⟩
    have s287 : za < 10 → ∀ (M : Nat) (zb : Int) (h : sm_H), 10 - zb < M → 0 ≤ zb → zb ≤ 10 → ab_Sh sx_sk h → ab_Fr [(14848, 14849)] h0 h → me_E (d + 3) 194 287 [some (.inr (.inr 109)), some (.inl za), some (.inl zb), q3] [] h (fun w h' => w = none ∧ ab_Sh sx_sk h' ∧ ab_Fr [(14848, 14849)] h0 h') := by
      intro lt M
      induction M with
      | zero => intro zb h hM _ _; exfalso; omega
      | succ M im =>
        intro zb h hM b0 b1 hS hF
        have ob : mi_in zb := ⟨by omega, by omega⟩
        refine mt_stP hS oa ob o3 ?_ ?_ ?_
        · intro b c
          refine ⟨by omega, fun h1 g1 g2 => ?_⟩
          have e := me_nil g2
          subst e
          exact ih (za + 1) _ _ _ (by omega) (by omega) (by omega) (me_oi ob) o3 g1 hF
        · intro b c1 c2
          exact ⟨by omega, fun h1 g1 g2 g3 => im (zb + 1) h1 (by omega) (by omega) (by omega) g1 (hF.trans g3)⟩
        · intro b c1 c2
          exact ⟨by omega, fun h1 g1 g2 g3 => im (zb + 1) h1 (by omega) (by omega) (by omega) g1 (hF.trans g3)⟩
    refine mt_stO hS oa o2 o3 ?_ ?_
    · intro b c h1 g1 g2
      have e := me_nil g2
      subst e
      exact ⟨rfl, g1, hF⟩
    · intro b c h1 g1 g2
      have e := me_nil g2
      subst e
      exact s287 (by omega) 20 0 _ (by omega) (by decide) (by decide) g1 hF
theorem s244x {d : Nat} {h0 : sm_H} {Y : wk_Y} (hL : sy_L h0 Y) (hS0 : ab_Sh sx_sk h0) : ∀ (N : Nat) (za : Int) (q2 q3 : Option mi_V) (h : sm_H), 10 - za < N → 0 ≤ za → za ≤ 10 → (∀ v, q2 = some v → mi_ok v) → (∀ v, q3 = some v → mi_ok v) → ab_Sh sx_sk h → ab_Fr [(14848, 14849)] h0 h → me_E (d + 3) 194 244 [some (.inr (.inr 109)), some (.inl za), q2, q3] [] h (fun w h' => w = none ∧ ab_Sh sx_sk h' ∧ ab_Fr [(14848, 14849)] h0 h') := by
  intro N
  induction N with
  | zero => intro za q2 q3 h hN _ _; exfalso; omega
  | succ N ih =>
    intro za q2 q3 h hN a0 a1 o2 o3 hS hF
    have oa : mi_in za := ⟨by omega, by omega⟩
    have hL1 := sy_L_fr hL hS0 (hF.wide (fun c hc => ab_swr_ok (by decide) hc))
    have h80 := hL1.1.2.1
    refine mt_stN hS oa o2 o3 ?_ ?_
    · intro b c h1 g1 g2
      have e := me_nil g2
      subst e
      exact s277x 20 0 _ _ _ (by decide) (by decide) (by decide) o2 o3 g1 hF
    · intro b c
      have := hL1.2.2.2.2 za a0 c
      exact ⟨by omega, fun h1 g1 g2 g3 => ih (za + 1) _ _ h1 (by omega) (by omega) (by omega) o2 o3 g1 (hF.trans g3)⟩
/-- what study leaves -/
def sz_Q (hb : sm_H) (w : Option mi_V) (h' : sm_H) : Prop := w = none ∧ ab_Sh sx_sk h' ∧ ab_Fr sy_W hb h' ∧ ∃ (j k : Nat) (W0 : sp_F), sp_eq (mi_f hb 13965).toNat (rX h') (sr_k (GR (mi_a hb)) j) ∧ sp_fix (mi_f hb 13965).toNat (GR (mi_a hb)) (sr_k (GR (mi_a hb)) j) ∧ (∀ i : Nat, (i : Int) < mi_f hb 13965 → W0 i = if (i : Int) = mi_a hb 114 0 then 1 else 0) ∧ (∀ i : Nat, mx_b h' 138 i = sk_k (sr_k (GR (mi_a hb)) j) (GR (mi_a hb)) (mi_f hb 13965).toNat W0 k i) ∧ sw_sol (sr_k (GR (mi_a hb)) j) (mi_f hb 13965).toNat (GR (mi_a hb)) (sk_k (sr_k (GR (mi_a hb)) j) (GR (mi_a hb)) (mi_f hb 13965).toNat W0 k)
section STZ
variable {d : Nat} {hb h0 : sm_H} {Y : wk_Y} {X : sp_X} {Q : Option mi_V → sm_H → Prop}
/-- what does not change in the second rounds -/
def sz_B (hb : sm_H) (X : sp_X) (h0 h : sm_H) : Prop := ab_Sh sx_sk h ∧ ab_Fr sy_W hb h ∧ ab_Fr be_W h0 h ∧ ∀ u : Int, 0 ≤ u → u < mi_f hb 13963 → rq_ok (rv_p (mi_a hb)) X h u
theorem sz_B_fr {h h' : sm_H} {wr : List (Nat × Nat)} (hB : sz_B hb X h0 h) (hS : ab_Sh sx_sk h') (hF : ab_Fr wr h h') (hw : ∀ c, ab_in wr c = true → ab_in be_W c = true) : sz_B hb X h0 h' := by
  obtain ⟨b1, b2, b3, b4⟩ := hB
  have F : ab_Fr be_W h h' := hF.wide hw
  refine ⟨hS, b2.trans (F.wide (fun c hc => ab_swr_ok (by decide) hc)), b3.trans F, fun u u0 u1 => ?_⟩
  obtain ⟨x1, x2⟩ := b4 u u0 u1
  exact ⟨(me_a (k := 131) F b1 rfl rfl).trans x1, (me_b (k := 134) F b1 rfl rfl).trans x2⟩
theorem sz205 {za : Int} {F : Nat} {Wk WN : sp_F} {n c : Nat} (hL : sy_L hb Y) (hSb : ab_Sh sx_sk hb) (hF : (F : Int) < mi_f hb 13965) (oa : mi_in za) (K : ∀ h zb zc, zb = (F : Int) + 1 → mi_in zc → sz_B hb X h0 h → sk_p X (GR (mi_a hb)) c (F + 1) (mx_b h 138) = WN → (mi_f h 13999 = 0 → mx_b h 138 = Wk) → me_E (d + 3) 194 190 [some (.inr (.inr 109)), some (.inl za), some (.inl zb), some (.inl zc)] [] h Q) : ∀ (m j : Nat) (zc : Int) (h : sm_H), j + m = (mi_a hb 130 F).toNat → zc = wk_alt (mi_a hb) j (mi_a hb 129 F) → mi_in zc → sz_B hb X h0 h → sk_p X (GR (mi_a hb)) c (F + 1) (sk_f X F (rv_as (mi_a hb) m zc) (mx_b h 138)) = WN → (mi_f h 13999 = 0 → mx_b h 138 = Wk) → me_E (d + 3) 194 205 [some (.inr (.inr 109)), some (.inl za), some (.inl (F : Int)), some (.inl zc)] [] h Q := by
  have b80 := me_fb (c := 13965) hSb rfl
  have hF' : (F : Int) < wk_f Y := by rw [hL.2.2.1]; exact hF
  obtain ⟨-, -, c1, c2, -, c3⟩ := hL.1.2.2.2 F (by omega) hF'
  have of : mi_in (F : Int) := ⟨by omega, by omega⟩
  intro m
  induction m with
  | zero =>
    intro j zc h hj ezc oc hB hW hk
    have neg : zc < 0 := by
      have ej : j = (mi_a hb 130 ((F : Int)).toNat).toNat := by show j = (mi_a hb 130 F).toNat; omega
      have c2 : wk_alt (mi_a hb) (mi_a hb 130 F).toNat (mi_a hb 129 F) < 0 := c2
      have ej : j = (mi_a hb 130 F).toNat := ej
      rw [← ej, ← ezc] at c2
      exact c2
    refine mt_stL hB.1 oa of oc ?_ ?_
    · intro k1
      refine ⟨⟨by omega, by omega⟩, fun h1 g1 g2 => ?_⟩
      have e0 := me_nil g2
      subst e0
      exact K h1 _ _ rfl oc hB hW hk
    · intro k1; exfalso; omega
  | succ m ih =>
    intro j zc h hj ezc oc hB hW hk
    have lt : (j : Int) < mi_a hb 130 F := by omega
    have bd := c3 j lt
    have bd : 0 ≤ wk_alt (mi_a hb) j (mi_a hb 129 F) ∧ wk_alt (mi_a hb) j (mi_a hb 129 F) < 80 ∧ (mi_a hb 126 (wk_alt (mi_a hb) j (mi_a hb 129 F)).toNat < 0 ∨ (mi_a hb 126 (wk_alt (mi_a hb) j (mi_a hb 129 F)).toNat < wk_u Y ∧ _)) := bd
    rw [← ezc] at bd
    obtain ⟨b1, b2, b3, b4⟩ := id hB
    have e : rv_eq hb h := rv_eq_fr b2 hSb rfl
    have hL1 := sy_L_fr hL hSb b2
    have e63 : mi_f h 13963 = mi_f hb 13963 := me_f (c := 13963) b2 hSb rfl rfl
    refine mt_stL b1 oa of oc ?_ ?_
    · intro k1; exfalso; omega
    · intro k1
      refine ⟨by omega, fun h1 g1 g2 => ?_⟩
      have e0 := me_nil g2
      subst e0
      refine ⟨_, me_behindx (d := d + 1) (X := X) (zx := mx_b h1 138 F) hL1.1 b1 bd.1 bd.2.1 (by rw [e 126 (by decide)]; rcases bd.2.2 with q | q <;> omega) (fun u u0 u1 => by rw [e.p]; exact b4 u u0 (by rw [hL1.2.1, e63] at u1; exact u1)), fun w h2 oww hq => ?_⟩
      obtain ⟨rfl, r2, r3, r4, r5⟩ := hq
      rw [e.l] at r4
      have B2 := sz_B_fr hB r2 r3 (fun _ hc => hc)
      have e2 : rv_eq hb h2 := rv_eq_fr B2.2.1 hSb rfl
      refine mt_stM r2 oa of oc ⟨by omega, fun h3 g1 g2 => ?_⟩
      have e0 := me_nil g2
      subst e0
      have e128 : mi_a h3 128 zc.toNat = mi_a hb 128 zc.toNat := by rw [e2 128 (by decide)]
      rw [e128]
      refine ih (j + 1) _ h3 (by omega) (by rw [wk_alt_succ, ezc]) (mi_inT _) B2 ?_ (fun q => ?_)
      · rw [r4]
        exact hW
      · obtain ⟨x1, x2⟩ := r5 q
        exact x2.trans (hk x1)
theorem sz190 {za : Int} {Wk WN : sp_F} (hL : sy_L hb Y) (hSb : ab_Sh sx_sk hb) (oa : mi_in za) (oa1 : mi_in (za + 1)) (K : ∀ h q2 q3, (∀ v, q2 = some v → mi_ok v) → (∀ v, q3 = some v → mi_ok v) → sz_B hb X h0 h → mx_b h 138 = WN → (mi_f h 13999 = 0 → mx_b h 138 = Wk) → me_E (d + 3) 194 169 [some (.inr (.inr 109)), some (.inl (za + 1)), q2, q3] [] h Q) : ∀ (c F : Nat) (q3 : Option mi_V) (h : sm_H), F + c = (mi_f hb 13965).toNat → (∀ v, q3 = some v → mi_ok v) → sz_B hb X h0 h → sk_p X (GR (mi_a hb)) c F (mx_b h 138) = WN → (mi_f h 13999 = 0 → mx_b h 138 = Wk) → me_E (d + 3) 194 190 [some (.inr (.inr 109)), some (.inl za), some (.inl (F : Int)), q3] [] h Q := by
  have b80 := me_fb (c := 13965) hSb rfl
  intro c
  induction c with
  | zero =>
    intro F q3 h hc o3 hB hW hk
    have of : mi_in (F : Int) := ⟨by omega, by omega⟩
    have e65 : mi_f h 13965 = mi_f hb 13965 := me_f (c := 13965) hB.2.1 hSb rfl rfl
    refine mt_stK hB.1 oa of o3 ?_ ?_
    · intro b c1
      refine ⟨oa1, fun h1 g1 g2 => ?_⟩
      have e0 := me_nil g2
      subst e0
      exact K h1 _ _ (me_oi of) o3 hB hW hk
    · intro b c1; exfalso; omega
  | succ c ih =>
    intro F q3 h hc o3 hB hW hk
    have of : mi_in (F : Int) := ⟨by omega, by omega⟩
    have e65 : mi_f h 13965 = mi_f hb 13965 := me_f (c := 13965) hB.2.1 hSb rfl rfl
    have e : rv_eq hb h := rv_eq_fr hB.2.1 hSb rfl
    refine mt_stK hB.1 oa of o3 ?_ ?_
    · intro b c1; exfalso; omega
    · intro b c1
      refine ⟨by omega, fun h1 g1 g2 => ?_⟩
      have e0 := me_nil g2
      subst e0
      have e129 : mi_a h1 129 ((F : Int)).toNat = mi_a hb 129 F := by rw [e 129 (by decide)]; rfl
      rw [e129]
      exact sz205 (Wk := Wk) (WN := WN) (c := c) (n := 0) hL hSb (by omega) oa (fun h2 zb zc ez oc hB2 hW2 hk2 => by
        rw [ez]
        exact ih (F + 1) _ h2 (by omega) (me_oi oc) hB2 hW2 hk2) (mi_a hb 130 F).toNat 0 _ h1 (by omega) rfl (mi_inT _) hB hW hk
theorem sz169 {W0 : sp_F} (hL : sy_L hb Y) (hSb : ab_Sh sx_sk hb) (K : ∀ h j q2 q3, (∀ v, q2 = some v → mi_ok v) → (∀ v, q3 = some v → mi_ok v) → sz_B hb X h0 h → mx_b h 138 = sk_k X (GR (mi_a hb)) (mi_f hb 13965).toNat W0 j → sw_sol X (mi_f hb 13965).toNat (GR (mi_a hb)) (sk_k X (GR (mi_a hb)) (mi_f hb 13965).toNat W0 j) → me_E (d + 3) 194 244 [some (.inr (.inr 109)), some (.inl 0), q2, q3] [] h Q) : ∀ (N k : Nat) (q2 q3 : Option mi_V) (h : sm_H), 900 - k < N → k ≤ 900 → (∀ v, q2 = some v → mi_ok v) → (∀ v, q3 = some v → mi_ok v) → sz_B hb X h0 h → mx_b h 138 = sk_k X (GR (mi_a hb)) (mi_f hb 13965).toNat W0 k → (k = 0 → mi_f h 13999 ≠ 0) → (∀ j, k = j + 1 → mi_f h 13999 = 0 → sk_k X (GR (mi_a hb)) (mi_f hb 13965).toNat W0 (j + 1) = sk_k X (GR (mi_a hb)) (mi_f hb 13965).toNat W0 j) → me_E (d + 3) 194 169 [some (.inr (.inr 109)), some (.inl (k : Int)), q2, q3] [] h Q := by
  have b80 := me_fb (c := 13965) hSb rfl
  intro N
  induction N with
  | zero => intro k q2 q3 h hN; exfalso; omega
  | succ N ih =>
    intro k q2 q3 h hN hk o2 o3 hB hW hc0 hc1
    have oa : mi_in (k : Int) := ⟨by omega, by omega⟩
    refine mt_stJ hB.1 oa o2 o3 ?_ ?_ ?_
    · intro c1 h1 g1 g2
      have e0 := me_nil g2
      subst e0
      exact K h1 k q2 q3 o2 o3 hB hW (sk_sol (sk_k_stop (by omega)))
    · intro b c1 c2 h1 g1 g2
      have e0 := me_nil g2
      subst e0
      cases k with
      | zero => exact absurd c2 (hc0 rfl)
      | succ j =>
        have E := hc1 j rfl c2
        exact K h1 j q2 q3 o2 o3 hB (hW.trans E) (sk_sol (fun i hi => congrFun E i))
    · intro b c1 c2 h1 s1 s2 s3
      have B1 := sz_B_fr hB s1 s3 (fun c hc => ab_swr_ok (by decide) hc)
      have e81 : mx_b h1 138 = mx_b h 138 := funext fun i => me_b (k := 138) s3 hB.1 rfl rfl
      refine sz190 (WN := sk_k X (GR (mi_a hb)) (mi_f hb 13965).toNat W0 (k + 1)) (Wk := sk_k X (GR (mi_a hb)) (mi_f hb 13965).toNat W0 k) hL hSb oa ⟨by omega, by omega⟩ (fun h2 q2 q3 o2 o3 hB2 hW2 hk2 => ?_) (mi_f hb 13965).toNat 0 _ h1 (by omega) o3 B1 ?_ (fun _ => by rw [e81]; exact hW)
      · have ek : (k : Int) + 1 = ((k + 1 : Nat) : Int) := by omega
        rw [ek]
        refine ih (k + 1) _ _ h2 (by omega) (by omega) o2 o3 hB2 hW2 (fun q => by omega) (fun j ej q => ?_)
        have : j = k := by omega
        subst this
        exact hW2.symm.trans (hk2 q)
      · rw [e81, hW]
        rfl
theorem st2x (hL : sy_L hb Y) (hA : sy_A hb) (hSb : ab_Sh sx_sk hb) (K : ∀ (h : sm_H) (q2 q3 : Option mi_V), (∀ v, q2 = some v → mi_ok v) → (∀ v, q3 = some v → mi_ok v) → ab_Sh sx_sk h → ab_Fr sy_W hb h → (∀ i : Nat, (i : Int) < mi_f hb 13965 → mi_a h 133 i = 0 ∧ mx_b h 136 i = 0 ∧ mi_a h 144 i = 1000 ∧ mx_b h 138 i = if (i : Int) = mi_a hb 114 0 then 1 else 0) → mi_f h 13999 = 1 → me_E (d + 3) 194 74 [some (.inr (.inr 109)), some (.inl 0), q2, q3] [] h Q) : ∀ (N : Nat) (za : Int) (q2 q3 : Option mi_V) (h : sm_H), 80 - za < N → 0 ≤ za → za ≤ mi_f hb 13965 → (∀ v, q2 = some v → mi_ok v) → (∀ v, q3 = some v → mi_ok v) → ab_Sh sx_sk h → ab_Fr sy_W hb h → (∀ i : Nat, (i : Int) < za → mi_a h 133 i = 0 ∧ mx_b h 136 i = 0 ∧ mi_a h 144 i = 1000 ∧ mx_b h 138 i = if (i : Int) = mi_a hb 114 0 then 1 else 0) → me_E (d + 3) 194 2 [some (.inr (.inr 109)), some (.inl za), q2, q3] [] h Q := by
  have b80 := me_fb (c := 13965) hSb rfl
  intro N
  induction N with
  | zero => intro za q2 q3 h hN a0 a1; exfalso; omega
  | succ N ih =>
    intro za q2 q3 h hN a0 a1 o2 o3 hS hF hv
    have oa : mi_in za := ⟨by omega, by omega⟩
    have e65 : mi_f h 13965 = mi_f hb 13965 := me_f (c := 13965) hF hSb rfl rfl
    have e114 : mi_a h 114 (Int.toNat 0) = mi_a hb 114 0 := me_a (k := 114) hF hSb rfl rfl
    refine mt_stB hS oa o2 o3 ?_ ?_ ?_
    · intro b c1 h1 s1 s2 s3
      refine K h1 q2 q3 o2 o3 s1 (hF.trans (s3.wide (fun c hc => ab_swr_ok (by decide) hc))) (fun i hi => ?_) s2
      rw [me_a (k := 133) s3 hS rfl rfl, me_b (k := 136) s3 hS rfl rfl, me_a (k := 144) s3 hS rfl rfl, me_b (k := 138) s3 hS rfl rfl]
      exact hv i (by omega)
    · intro b c1 c2
      refine ⟨by omega, fun h1 s1 s2 s3 s4 s5 s6 s7 => ih (za + 1) _ _ h1 (by omega) (by omega) (by omega) o2 o3 s1 (hF.trans (s7.wide (fun c hc => ab_swr_ok (by decide) hc))) (fun i hi => ?_)⟩
      rw [s2, s4, s5, s6]
      by_cases ci : i = za.toNat
      · rw [if_pos ci, if_pos ci, if_pos ci, if_pos ci, if_neg (by rw [e114] at c2; omega)]
        exact ⟨rfl, rfl, rfl, rfl⟩
      · rw [if_neg ci, if_neg ci, if_neg ci, if_neg ci]
        exact hv i (by omega)
    · intro b c1 c2
      refine ⟨by omega, fun h1 s1 s2 s3 s4 s5 s6 s7 => ih (za + 1) _ _ h1 (by omega) (by omega) (by omega) o2 o3 s1 (hF.trans (s7.wide (fun c hc => ab_swr_ok (by decide) hc))) (fun i hi => ?_)⟩
      rw [s2, s4, s5, s6]
      by_cases ci : i = za.toNat
      · rw [if_pos ci, if_pos ci, if_pos ci, if_pos ci, if_pos (by rw [e114] at c2; omega)]
        exact ⟨rfl, rfl, rfl, rfl⟩
      · rw [if_neg ci, if_neg ci, if_neg ci, if_neg ci]
        exact hv i (by omega)
theorem me_studyx (hL : sy_L hb Y) (hA : sy_A hb) (hSb : ab_Sh sx_sk hb) : me_E (d + 3) 194 0 [some (.inr (.inr 109)), none, none, none] [] hb (sz_Q hb) := by
  have b80 := me_fb (c := 13965) hSb rfl
  refine mt_stA hSb (fun h1 g1 g2 => ?_)
  have e0 := me_nil g2
  subst e0
  refine st2x hL hA hSb (fun h2 q2 q3 o2 o3 s1 s2 s3 s4 => ?_) 81 0 none none h1 (by decide) (by decide) b80.1 me_on me_on hSb ab_Fr.refl (fun i hi => by omega)
  refine st74 (W := mx_b h2 138) hL hA hSb (fun h3 j q2 q3 o2 o3 hj t1 => ?_) 901 0 q2 q3 h2 (by decide) (by decide) o2 o3 ⟨⟨s1, s2, rfl⟩, fun F hF => ?_, fun _ => by omega, fun j ej => by omega⟩
  · obtain ⟨⟨b1, b2, b3⟩, j2, j3, j4⟩ := hj
    refine sz169 (X := sr_k (GR (mi_a h1)) j) (h0 := h3) (W0 := mx_b h2 138) hL hSb (fun h4 k q2 q3 o2 o3 hB hW hs => ?_) 901 0 q2 q3 h3 (by decide) (by decide) o2 o3 ⟨b1, b2, ab_Fr.refl, j4⟩ b3 (fun _ => by omega) (fun j ej => by omega)
    have hL4 := sy_L_fr hL hSb hB.2.1
    refine (s244x hL4 hB.1 20 0 q2 q3 h4 (by decide) (by decide) (by decide) o2 o3 hB.1 ab_Fr.refl).imp (fun w h' hq => ?_)
    obtain ⟨r1, r2, r3⟩ := hq
    refine ⟨r1, r2, hB.2.1.trans (r3.wide (fun c hc => ab_swr_ok (by decide) hc)), j, k, mx_b h2 138, ?_, j3, fun i hi => (s3 i hi).2.2.2, fun i => ?_, hs⟩
    · rw [rX_fr r3 hB.1 rfl, rX_fr hB.2.2.1 b1 rfl]
      exact j2
    · rw [me_b (k := 138) r3 hB.1 rfl rfl, hW]
  · obtain ⟨x1, x2, x3, -⟩ := s3 F (by omega)
    exact ⟨x1, x2, x3⟩
end STZ
