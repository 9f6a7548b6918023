/-! after both have compiled: the class's rows as the growing walk wants them -/
section SG0
variable {f : Int → Int} {ow : Nat → Nat} {o : Nat → Nat → Nat} {g : wk_g} {Y : wk_Y} {h hb h3 : sm_H}
theorem sm_high {XR XC Z : sp_X} (hR : sd_R f ow g Y h) (T1 : ∀ F : Nat, (F : Int) < g 0 2 → fm_of f F < 70) (GO : sg_OK (g 0 2).toNat (GR (mi_a h))) (S : sp_eq (g 0 2).toNat XR (sn_X (fm_of f) XC)) (e : cv_eq hb h) (c9 : ∀ F : Nat, F < 70 → ∀ a ∈ cv_A hb F, mi_a h 87 a.toNat = min 1000 (sa_h XC ((cv_l hb a).map (cv_p hb)))) (r7 : sp_eq (g 0 2).toNat Z XR) (r8 : ∀ a : Int, 0 ≤ a → a < g 0 1 → ap_ok Z h a) {F : Nat} (hF : (F : Int) < g 0 2) {a : Int} (ha : a ∈ ra_L h F) : mi_a h 87 a.toNat = mi_a h 143 a.toNat ∧ mi_a h 143 a.toNat ≤ 1000 := by
  obtain ⟨hq, hC, hP, hI, hV, hW, hZ, hL, hU⟩ := id hR
  obtain ⟨⟨a0, a1⟩, am⟩ := sm_memr hR e hF ha
  have k1 := c9 (fm_of f F) (T1 F hF) a (by rw [(sm_eA hR e hF).1, ← (sm_eA hR e hF).2]; exact ha)
  obtain ⟨-, -, y3⟩ := r8 a a0 a1
  obtain ⟨l1, -⟩ := TW_l hq hC hP hI hV hZ hL a0 a1
  obtain ⟨-, -, n3⟩ := sn_a (fm := fm_of f) (X := XC) (rv_l (mi_a h) a)
  have el : (cv_l hb a).map (cv_p hb) = (rv_l (mi_a h) a).map (sn (fm_of f)) := by
    rw [← e.l, ← e.p]
    exact l1
  rw [el, n3] at k1
  obtain ⟨ok, us⟩ := GO F (by omega) _ am
  have s1 := sE_ah (S.h 1000) _ ok us
  have s2 := sE_ah (r7.h 1000) _ ok us
  exact ⟨by omega, by omega⟩
theorem high_same (hT : TW f ow g Y h) (h1 : 1 ≤ g 0 3) (e : cv_eq hb h) (hw : wx_B hb h) (hS3 : ab_Sh sx_sk h3) (hF3 : ab_Fr sy_W h3 h) (hq3 : RQ g h3) (hL3 : sy_L h3 Y) (hz : ∀ (β : Int → Int64) (ρ : Int → List Int), bt_ok β h3 → rh_ok h3 ρ → sz_Z β ρ h3 none h) : ∀ F : Nat, (F : Int) < g 0 2 → ∀ a ∈ ra_L h F, mi_a h 87 a.toNat = mi_a h 143 a.toNat ∧ mi_a h 143 a.toNat ≤ 1000 := by
  obtain ⟨T, hF⟩ := TW_two hT
  obtain ⟨hS, hq, hC, hP, hI, hV, hW, hZ, hL, hA⟩ := id hT
  have hU := hF.1
  have hR : sd_R f ow g Y h := ⟨hq, hC, hP, hI, hV, hW, hZ, hL, hU⟩
  have e3 : rv_eq h3 h := rv_eq_fr hF3 hS3 rfl
  have GO := sy_OK hL (TW_A hq hW hL)
  have CO := cv_OK hF
  have e65 : mi_f h 13965 = g 0 2 := hq.1.2.2.1.symm
  have f65 : mi_f h3 13965 = g 0 2 := hq3.1.2.2.1.symm
  have f64 : mi_f h3 13964 = g 0 1 := hq3.1.2.1.symm
  have eG : GR (mi_a h3) = GR (mi_a h) := e3.g.symm
  have hz := hz _ _ (bt_of hC hI hZ hq3) (rh_of hC hP hW hU hq3 hL3)
  obtain ⟨-, -, -, j', k', W', ⟨r1, r2, r3, r4, r5⟩, r6, ⟨Z, r7, r8⟩, -⟩ := hz
  rw [eG, f65] at r2 r7
  rw [f64] at r8
  rw [e65] at T GO
  have T1 : ∀ F : Nat, (F : Int) < g 0 2 → fm_of f F < 70 := fun F hF => (T.1 F (by omega)).1
  obtain ⟨j, k, W, c1, c2, c3, c4, c5, c6, c7, -, c10⟩ := hw
  rw [← e.g] at c2 c10
  have S := sg_same GO CO T r2 c2
  exact fun F hF a ha => sm_high hR T1 GO S e c10 r7 r8 hF ha
theorem cg_of (hT : TW f ow g Y h) (hl : TLW g h) (hp : PL g) (hk : lc_ok h) (hh : ∀ F : Nat, (F : Int) < g 0 2 → ∀ a ∈ ra_L h F, mi_a h 87 a.toNat = mi_a h 143 a.toNat ∧ mi_a h 143 a.toNat ≤ 1000) : cg_G f (fun u => ow u.toNat = u.toNat) (mi_a h) Y (gx_k h) h := by
  obtain ⟨hS, hq, hC, hP, hI, hV, hW, hZ, hL, hA⟩ := id hT
  obtain ⟨⟨p00, p01, p03, p02, p04⟩, pu, pa, pf⟩ := hP
  obtain ⟨tc1, tc2, tc3, tc4, tc5, tc6, tc7⟩ := hC
  have r : ∀ r, r ∈ rk_L → mi_a h r = g r := fun r hr => rk_g2 hq hr
  have g114 := r 114 (by decide)
  have g115 := r 115 (by decide)
  have g119 := r 119 (by decide)
  have g120 := r 120 (by decide)
  have g122 := r 122 (by decide)
  have g124 := r 124 (by decide)
  have g125 := r 125 (by decide)
  have g126 := r 126 (by decide)
  have g128 := r 128 (by decide)
  have g129 := r 129 (by decide)
  have g130 := r 130 (by decide)
  have eu : wk_u Y = g 0 0 := hL.2.1.trans hq.1.1.symm
  have ef : wk_f Y = g 0 2 := hL.2.2.1.trans hq.1.2.2.1.symm
  have e62 : mi_f h 13962 = g 0 4 := hq.1.2.2.2.2.1.symm
  refine ⟨hL.1, fun F F0 F1 => ?_, fun u u0 u1 => ?_, by rw [hl.2.1]; exact p04.2, fun c c0 c1 => ?_, fun c hc => ?_⟩
  · rw [ef] at F1
    have eF : ((F.toNat : Nat) : Int) = F := by omega
    have hFn : ((F.toNat : Nat) : Int) < g 0 2 := by omega
    obtain ⟨t1, t2⟩ := tc1 F.toNat hFn
    rw [eF] at t1 t2
    obtain ⟨f0, f1, -⟩ := hI.2.2.2 F F0 F1
    have hf6 := pf F.toNat hFn
    refine ⟨⟨f0, by omega⟩, by rw [g129]; exact t1, by rw [g130]; exact t2, by rw [g130]; exact hf6.2, fun j hj => ?_⟩
    rw [g130] at hj
    have hA' := altr hq hW hL (F := F.toNat) hFn j hj
    rw [alt_g hq, g129]
    have hm : wk_alt g j (g 129 F.toNat) ∈ ra_L h F.toNat := by
      unfold ra_L
      refine (ra_mem _ _).mpr ⟨j, by rw [g130]; omega, ?_⟩
      rw [alt_g hq, g129]
    obtain ⟨hi1, hi2⟩ := hh F.toNat hFn _ hm
    generalize wk_alt g j (g 129 F.toNat) = A at hA' hi1 hi2
    have hAn : ((A.toNat : Nat) : Int) < g 0 1 := by omega
    obtain ⟨s1, s2⟩ := tc3 A.toNat hAn
    obtain ⟨⟨s3, -⟩, s4⟩ := pa A.toNat hAn
    rw [g126, g128]
    exact ⟨⟨hA'.1, by omega⟩, s1, s2, hi1, hi2, s3, s4⟩
  · rw [eu] at u1
    have hun : ((u.toNat : Nat) : Int) < g 0 0 := by omega
    obtain ⟨t1, t2, t3, t4⟩ := tc4 u.toNat hun
    obtain ⟨t5, t6⟩ := tc5 u.toNat hun
    have hv := (hV.2.2 u.toNat hun).2.2.1
    obtain ⟨⟨q1, q2⟩, ⟨q3, q4⟩, q5, q6, q7⟩ := pu u.toNat hun
    refine ⟨by rw [g119]; exact t1, fun c9 => ?_, fun c10 => ?_, by rw [g122]; exact t4, by rw [g122]; exact hv, fun hit => ?_⟩
    · rw [g119] at c9
      obtain ⟨x1, x2⟩ := t6 c9
      have x3 := hZ u.toNat hun c9
      have x4 := tc6 (g 120 u.toNat).toNat (by omega) x3
      have x5 := (hI.1 (g 115 (g 120 u.toNat).toNat).toNat (by omega)).2
      unfold wk_rf
      rw [g115, g120, g114]
      refine ⟨?_, ?_⟩
      · rw [t2, if_pos c9]
      · rw [x5]
        omega
    · rw [g119] at c10
      rw [t2, if_neg (by omega), if_pos c10, g120]
    · have hit : ow u.toNat = u.toNat := hit
      rw [g124, g125]
      refine ⟨hl.1 u.toNat hun, q3, q6, fun hm => ?_, fun hm => ?_⟩
      · obtain ⟨w1, w2⟩ := q5 hm
        refine ⟨?_, ?_⟩
        · rw [t3]
          unfold cq_n
          rw [if_pos hm]
        · rw [(tc4 (g 124 u.toNat).toNat (by omega)).2.2.1]
          unfold cq_n
          rw [if_neg (by omega), w1]
      · rw [t3]
        unfold cq_n
        rw [if_neg hm, hit]
  · unfold gx_k
    rw [gx_kw_iff, hl.2.1, e62]
    have bs : ∀ l : Nat, (l : Int) < g 0 4 → 0 ≤ mi_a h 117 l := fun l hl' => (hk l (by rw [e62]; exact hl')).2.2
    have z0 : (0 : Int64).toInt = 0 := rfl
    constructor
    · rintro ⟨l, l1, l2⟩
      rw [hl.2.2 l l1, hq.2.2 l] at l2
      unfold lc_r at l2
      by_cases cz : (mx_b h 118 l).toInt = 0
      · rw [if_pos cz] at l2
        have := bs l l1
        omega
      · rw [if_neg cz] at l2
        exact ⟨l, l1, fun q => cz (by rw [q]; rfl), l2⟩
    · rintro ⟨l, l1, l2, l3⟩
      refine ⟨l, l1, ?_⟩
      rw [hl.2.2 l l1, hq.2.2 l]
      unfold lc_r
      rw [if_neg (fun q => l2 (Int64.toInt_inj.mp (q.trans z0.symm)))]
      exact l3
  · unfold gx_k at hc
    obtain ⟨l, l1, l2, l3⟩ := gx_kw_iff.mp hc
    have z0 : (0 : Int64).toInt = 0 := rfl
    have := hp.2 l (by omega)
    rw [hq.2.2 l] at this
    unfold lc_r at this
    rw [if_neg (fun q => l2 (Int64.toInt_inj.mp (q.trans z0.symm)))] at this
    omega
/-- what is kept between calls, as far as grow tells -/
def r8_c (h : sm_H) : Prop := (mi_f h 6543 ≠ 0 ↔ mi_f h 13959 = 2) ∧ (mi_f h 13959 = 2 → ∃ f it Y, cg_G f it (mi_a h) Y (gx_k h) h ∧ wk_Lrule Y (mi_a h 114 0) ∧ f (mi_a h 114 0) = 0) ∧ mi_f h 13959 ≤ 2
end SG0
