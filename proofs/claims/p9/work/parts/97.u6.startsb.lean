/-! the class's Sets: starts, begins and alternatives are worked out -/
theorem at_ok_eq {X Y : sp_X} {hb h : sm_H} {a n : Nat} (e : sp_eq n X Y) (hu : sg_ok n ((cv_l hb a).map (cv_p hb)) ∧ sg_us ((cv_l hb a).map (cv_p hb))) (k : at_ok hb X h a) : at_ok hb Y h a := by
  have e3 := sE_ah (e.h 1000) _ hu.1 hu.2
  have k3 := k.2.2
  refine ⟨k.1.trans (sE_av e.v _ hu.1), k.2.1.trans (tb_ext (fun b => sE_as (e.s b) _ hu.1)), by omega⟩
def at_bt (hb : sm_H) (X Y : sp_X) (h : sm_H) (a : Nat) : Prop := ∃ Z, sp_le 70 X Z ∧ sp_le 70 Z Y ∧ sp_01 70 Z ∧ at_ok hb Z h a
def cv_A (h : sm_H) (F : Nat) : List Int := cv_as h (cv_n h F) (mi_a h 63 F)
def sB_Q (hb : sm_H) (w : Option mi_V) (h' : sm_H) : Prop := ss_Q hb w h' ∧ (∃ j, sp_eq 70 (cX h') (sps_k (GC hb) 70 j) ∧ ∀ F : Nat, F < 70 → ∀ a ∈ cv_A hb F, at_ok hb (sps_k (GC hb) 70 j) h' a.toNat) ∧ ∃ j, sp_eq 70 (cB h') (sps_k (bG (GC hb)) 70 j) ∧ sp_fix 70 (bG (GC hb)) (sps_k (bG (GC hb)) 70 j)
section SBS
variable {d : Nat} {hb : sm_H} {U : Int}
def sB_I (hb : sm_H) (k : Nat) (m : Nat) (h : sm_H) : Prop := ss_I hb k m h ∧ (sp_eq 70 (sps (bG (GC hb)) m (cB h)) (sps_k (bG (GC hb)) 70 (k + 1)) ∧ sp_up 70 (bG (GC hb)) (cB h) ∧ (mi_f h 9999 = 0 → sp_eq 70 (cB h) (sps_k (bG (GC hb)) 70 k))) ∧ ∀ F : Nat, m ≤ F → F < 70 → ∀ a ∈ cv_A hb F, at_bt hb (sps_k (GC hb) 70 k) (sps_k (GC hb) 70 (k + 1)) h a.toNat
theorem sB_step {k m : Nat} {h : sm_H} (hSb : ab_Sh sx_sk hb) (hF : cv_F hb U) (hm : m < 70) (hI : sB_I hb k (m + 1) h) : me_E (d + 5) 68 0 [some (.inr (.inr 78)), some (.inl (m : Int)), none, none, none, none, none, none, none] [] h (fun w h' => w = none ∧ sB_I hb k m h') := by
  obtain ⟨I0, ⟨b1, b2, b3⟩, b4⟩ := hI
  have I0' := I0
  obtain ⟨i1, i2, i3, i4, i5, i6, i7, i8, i9⟩ := I0'
  have e : cv_eq hb h := cv_eq_fr i2 hSb rfl
  have hF' := e.F hF
  have hG := cv_OK hF
  have em : ((m : Int)).toNat = m := rfl
  refine ((ss_step (d := d) hSb hF hm I0).and (me_refreshFormB (d := d) (zf := (m : Int)) i1 hF'.1 i5 i7 (by omega) (by omega) (hF'.2 m hm))).imp (fun w h' hq => ?_)
  obtain ⟨⟨r1, I1⟩, -, -, -, r4, r5, r6, r7⟩ := hq
  rw [em, e.g] at r4
  have eA : cv_as h (cv_n h m) (mi_a h 63 m) = cv_A hb m := by
    unfold cv_A
    rw [e.n, e.as, e.1]
  rw [em, eA] at r6 r7
  have e1 : sps (bG (GC hb)) m (cB h') = sps (bG (GC hb)) (m + 1) (cB h) := by rw [r4]; rfl
  have lN : sp_le 70 (cX h) (sps_k (GC hb) 70 (k + 1)) := sp_le_tr (sps_up hG (m + 1) _ (by omega) i6).1 i3.le
  refine ⟨r1, I1, ⟨by rw [e1]; exact b1, by rw [r4]; exact su_up (bG_OK hG) (by omega) b2, fun q => ?_⟩, fun F f0 f1 a ha => ?_⟩
  · obtain ⟨q1, q2⟩ := r5 q
    rw [q2]
    exact b3 q1
  · by_cases c : ∃ x ∈ cv_A hb m, x.toNat = a.toNat
    · obtain ⟨x, hx, ex⟩ := c
      have k1 := r6 x hx
      rw [ex] at k1
      unfold at_ok at k1
      rw [e.p, e.l] at k1
      exact ⟨cX h, i4, lN, i5, k1⟩
    · have nF : F ≠ m := fun q => c ⟨a, by rw [← q]; exact ha, rfl⟩
      obtain ⟨Z, z1, z2, z3, z4⟩ := b4 F (by omega) f1 a ha
      obtain ⟨x1, x2, x3⟩ := r7 a.toNat (fun x hx q => c ⟨x, hx, q⟩)
      exact ⟨Z, z1, z2, z3, x1.trans z4.1, x2.trans z4.2.1, x3.trans z4.2.2⟩
theorem sB_pass {k : Nat} {zn : Int} {Q : Option mi_V → sm_H → Prop} (hSb : ab_Sh sx_sk hb) (hF : cv_F hb U) (on : mi_in zn) (on1 : mi_in (zn + 1)) (K : ∀ h, sB_I hb k 0 h → me_E (d + 6) 67 7 [some (.inr (.inr 78)), some (.inl (zn + 1)), some (.inl (-1))] [] h Q) : ∀ (m : Nat) (h : sm_H), m ≤ 70 → sB_I hb k m h → me_E (d + 6) 67 28 [some (.inr (.inr 78)), some (.inl zn), some (.inl ((m : Int) - 1))] [] h Q := by
  intro m
  induction m with
  | zero =>
    intro h _ hI
    refine mt_spC hI.1.1 on ⟨by decide, by decide⟩ ?_ (fun q => absurd q (by decide))
    intro c1
    refine ⟨on1, fun h1 g1 g2 => ?_⟩
    have e0 := me_nil g2
    subst e0
    exact K h1 hI
  | succ m ih =>
    intro h hm hI
    have ez : ((m + 1 : Nat) : Int) - 1 = (m : Int) := by omega
    rw [ez]
    refine mt_spC hI.1.1 on ⟨by omega, by omega⟩ (fun q => by exfalso; omega) ?_
    intro c1 h1 g1 g2
    have e0 := me_nil g2
    subst e0
    refine ⟨_, sB_step (d := d) hSb hF (by omega) hI, fun w h2 oww hq => ?_⟩
    obtain ⟨rfl, hI2⟩ := hq
    refine mt_spD hI2.1.1 on ⟨by omega, by omega⟩ ⟨by omega, fun h3 g1 g2 => ?_⟩
    have e0 := me_nil g2
    subst e0
    exact ih h3 (by omega) hI2
def sB_H (hb : sm_H) (k : Nat) (h : sm_H) : Prop := ss_H hb k h ∧ sp_eq 70 (cB h) (sps_k (bG (GC hb)) 70 k) ∧ ∀ j, k = j + 1 → (mi_f h 9999 = 0 → sp_eq 70 (sps_k (bG (GC hb)) 70 (j + 1)) (sps_k (bG (GC hb)) 70 j)) ∧ ∀ F : Nat, F < 70 → ∀ a ∈ cv_A hb F, at_bt hb (sps_k (GC hb) 70 j) (sps_k (GC hb) 70 (j + 1)) h a.toNat
theorem sB_end {k : Nat} {h : sm_H} (hF : cv_F hb U) (hH : sB_H hb k h) (hx : mi_f h 9999 = 0 ∨ 100000 ≤ k) : sB_Q hb none h := by
  obtain ⟨H0, b1, b2⟩ := hH
  refine ⟨ss_end hF H0 hx, ?_⟩
  obtain ⟨i1, i2, i3, i4, i5, i6⟩ := H0
  have hG := cv_OK hF
  cases k with
  | zero =>
    exfalso
    rcases hx with q | q
    · exact i5 rfl q
    · omega
  | succ j =>
    obtain ⟨j1, j2⟩ := i6 j rfl
    obtain ⟨l1, l2⟩ := b2 j rfl
    have E : sp_eq 70 (sps_k (GC hb) 70 (j + 1)) (sps_k (GC hb) 70 j) := by
      rcases hx with q | q
      · exact j1 q
      · exact sps_k_stop hG (by omega)
    have EB : sp_eq 70 (sps_k (bG (GC hb)) 70 (j + 1)) (sps_k (bG (GC hb)) 70 j) := by
      rcases hx with q | q
      · exact l1 q
      · exact sps_k_stop (bG_OK hG) (by omega)
    refine ⟨⟨j, i3.trans E, fun F hF' a ha => ?_⟩, j, b1.trans EB, fun F hF' => sps_fix (bG_OK hG) 70 _ (Nat.le_refl _) (sps_k_01 j) (sps_k_up (bG_OK hG) j) EB F hF'⟩
    obtain ⟨Z, z1, z2, z3, z4⟩ := l2 F hF' a ha
    have a0 := (cv_as_in _ _ (hF.2 F hF') a ha).1.1
    have ez : ((a.toNat : Nat) : Int) = a := Int.toNat_of_nonneg a0
    refine at_ok_eq (sp_anti z3 (sps_k_01 j) (sp_le_tr z2 E.le) z1) ?_ z4
    rw [ez]
    exact hG F hF' _ (List.mem_map.mpr ⟨a, ha, rfl⟩)
theorem sB_loop (hSb : ab_Sh sx_sk hb) (hF : cv_F hb U) : ∀ (N k : Nat) (q2 : Option mi_V) (h : sm_H), 100000 - k < N → k ≤ 100000 → (∀ v, q2 = some v → mi_ok v) → sB_H hb k h → me_E (d + 6) 67 7 [some (.inr (.inr 78)), some (.inl (k : Int)), q2] [] h (sB_Q hb) := by
  have hG := cv_OK hF
  intro N
  induction N with
  | zero => intro k q2 h hN; exfalso; omega
  | succ N ih =>
    intro k q2 h hN hk oq hH
    refine mt_spB hH.1.1 ⟨by omega, by omega⟩ oq ?_ ?_ ?_
    · intro b c1 h1 g1 g2
      have e0 := me_nil g2
      subst e0
      exact sB_end hF hH (Or.inl c1)
    · intro b c1 c2 h1 g1 g2
      have e0 := me_nil g2
      subst e0
      exact sB_end hF hH (Or.inr (by omega))
    · intro b c1 c2 h1 s1 s2 s3
      obtain ⟨⟨i1, i2, i3, i4, i5, i6⟩, w1, w2⟩ := hH
      have eX : cX h1 = cX h := cX_fr s3 i1 rfl
      have eB : cB h1 = cB h := cB_fr s3 i1 rfl
      have I1 : ss_I hb k 70 h1 := by
        refine ⟨s1, i2.trans (s3.wide (fun c hc => ab_swr_ok (by decide) hc)), ?_, ?_, ?_, ?_, fun F hF' => by rw [me_a (k := 82) s3 i1 rfl rfl]; exact i4 F hF', fun _ => by rw [eX]; exact i3, fun F f0 f1 => by omega⟩
        · rw [eX]; exact sps_eq hG 70 _ _ (Nat.le_refl _) i3
        · rw [eX]; exact i3.symm.le
        · rw [eX]
          intro F hF'
          rw [(i3 F hF').1]
          exact sps_k_01 k F hF'
        · rw [eX]
          intro F hF'
          obtain ⟨a1, a2, a3⟩ := i3.fs (hG F hF')
          obtain ⟨b1, b2, b3⟩ := i3 F hF'
          rw [a1, a2, a3, b1, b2, b3]
          exact sps_k_up hG k F hF'
      have J1 : sB_I hb k 70 h1 := by
        refine ⟨I1, ⟨?_, ?_, fun _ => by rw [eB]; exact w1⟩, fun F f0 f1 => by omega⟩
        · rw [eB]; exact sps_eq (bG_OK hG) 70 _ _ (Nat.le_refl _) w1
        · rw [eB]
          intro F hF'
          obtain ⟨a1, a2, a3⟩ := w1.fs (bG_OK hG F hF')
          obtain ⟨b1, b2, b3⟩ := w1 F hF'
          rw [a1, a2, a3, b1, b2, b3]
          exact sps_k_up (bG_OK hG) k F hF'
      refine sB_pass (k := k) hSb hF ⟨by omega, by omega⟩ ⟨by omega, by omega⟩ (fun h2 hI => ?_) 70 h1 (Nat.le_refl _) J1
      obtain ⟨⟨j1, j2, j3, j4, j5, j6, j7, j8, j9⟩, ⟨k1, k2, k3⟩, k4⟩ := hI
      have ek : (k : Int) + 1 = ((k + 1 : Nat) : Int) := by omega
      rw [ek]
      exact ih (k + 1) _ h2 (by omega) (by omega) (me_oi ⟨by decide, by decide⟩) ⟨⟨j1, j2, j3, j7, fun q => by omega, fun j ej => by
        have : j = k := by omega
        subst this
        exact ⟨fun q => j3.symm.trans (j8 q), fun F hF' u hu => j9 F (Nat.zero_le _) hF' u hu⟩⟩, k1, fun j ej => by
        have : j = k := by omega
        subst this
        exact ⟨fun q => k1.symm.trans (k3 q), fun F hF' a ha => k4 F (Nat.zero_le _) hF' a ha⟩⟩
theorem me_spreadStartsB {h : sm_H} (hSb : ab_Sh sx_sk hb) (hF : cv_F hb U) (hS : ab_Sh sx_sk h) (hFr : ab_Fr rm_W hb h) (h0 : sp_eq 70 (cX h) sp_bot) (h0' : ∀ F : Nat, F < 70 → mi_a h 83 F = 0) : me_E (d + 6) 67 0 [some (.inr (.inr 78)), none, none] [] h (sB_Q hb) := by
  refine mt_spA hS (fun h1 s1 s2 s3 => ?_)
  have eX : cX h1 = cX h := cX_fr s3 hS rfl
  have eB : cB h1 = cB h := cB_fr s3 hS rfl
  refine sB_loop hSb hF 100001 0 none h1 (by decide) (by decide) me_on ⟨⟨s1, hFr.trans (s3.wide (fun c hc => ab_swr_ok (by decide) hc)), by rw [eX]; exact h0, fun F hF' => ?_, fun _ => by omega, fun j ej => by omega⟩, ?_, fun j ej => by omega⟩
  · have : mi_a h1 82 F = 1000 := by
      have := (h0 F hF').2.2
      rw [← eX] at this
      exact this
    omega
  · rw [eB]
    intro F hF'
    refine ⟨(h0 F hF').1, ?_, (h0 F hF').2.2⟩
    show b64 (mi_a h 83 F) = 0
    rw [h0' F hF']
    rfl
end SBS
