/-! after both have compiled: the class's rows as the growing walk wants them -/
section SG0
variable {f : Int → Int} {ow : Nat → Nat} {o : Nat → Nat → Nat} {g : wk_g} {Y : wk_Y} {h hb h3 : sm_H}
theorem sm_high {XR XC Z : sp_X} (hR : sd_R f ow g Y h) (T1 : ∀ F : Nat, (F : Int) < g 0 2 → fm_of f F < 70) (GO : sg_OK (g 0 2).toNat (GR (mi_a h))) (S : sp_eq (g 0 2).toNat XR (sn_X (fm_of f) XC)) (e : cv_eq hb h) (c9 : ∀ F : Nat, F < 70 → ∀ a ∈ cv_A hb F, mi_a h 87 a.toNat = min 1000 (sa_h XC ((cv_l hb a).map (cv_p hb)))) (r7 : sp_eq (g 0 2).toNat Z XR) (r8 : ∀ a : Int, 0 ≤ a → a < g 0 1 → ap_ok Z h a) {F : Nat} (hF : (F : Int) < g 0 2) {a : Int} (ha : a ∈ ra_L h F) : mi_a h 87 a.toNat = mi_a h 143 a.toNat ∧ mi_a h 143 a.toNat ≤ 1000 := by
  obtain ⟨hq, hC, hP, hI, hV, hW, hZ, hL, hU⟩ := id hR
  obtain ⟨⟨a0, a1⟩, am⟩ := sm_memr hR e hF ha
  have k1 := c9 (fm_of f F) (T1 F hF) a (by rw [(sm_eA hR e hF).1, ← (sm_eA hR e hF).2]; exact ha)
  obtain ⟨-, -, y3⟩ := r8 a a0 a1
  obtain ⟨l1, -⟩ := TW_l hq hC hP hI hV hZ hL a0 a1
  obtain ⟨-, -, n3⟩ := sn_a (fm := fm_of f) (X := XC) (rv_l (mi_a h) a)
  have el : (cv_l hb a).map (cv_p hb) = (rv_l (mi_a h) a).map (sn (fm_of f)) := by
    rw [← e.l, ← e.p]
    exact l1
  rw [el, n3] at k1
  obtain ⟨ok, us⟩ := GO F (by omega) _ am
  have s1 := sE_ah (S.h 1000) _ ok us
  have s2 := sE_ah (r7.h 1000) _ ok us
  exact ⟨by omega, by omega⟩
theorem high_same (hT : TW f ow g Y h) (h1 : 1 ≤ g 0 3) (e : cv_eq hb h) (hw : wx_B hb h) (hS3 : ab_Sh sx_sk h3) (hF3 : ab_Fr sy_W h3 h) (hq3 : RQ g h3) (hL3 : sy_L h3 Y) (hz : ∀ (β : Int → Int64) (ρ : Int → List Int), bt_ok β h3 → rh_ok h3 ρ → sz_Z β ρ h3 none h) : ∀ F : Nat, (F : Int) < g 0 2 → ∀ a ∈ ra_L h F, mi_a h 87 a.toNat = mi_a h 143 a.toNat ∧ mi_a h 143 a.toNat ≤ 1000 := by
  obtain ⟨T, hF⟩ := TW_two hT
  obtain ⟨hS, hq, hC, hP, hI, hV, hW, hZ, hL, hA⟩ := id hT
  have hU := hF.1
  have hR : sd_R f ow g Y h := ⟨hq, hC, hP, hI, hV, hW, hZ, hL, hU⟩
  have e3 : rv_eq h3 h := rv_eq_fr hF3 hS3 rfl
  have GO := sy_OK hL (TW_A hq hW hL)
  have CO := cv_OK hF
  have e65 : mi_f h 13965 = g 0 2 := hq.1.2.2.1.symm
  have f65 : mi_f h3 13965 = g 0 2 := hq3.1.2.2.1.symm
  have f64 : mi_f h3 13964 = g 0 1 := hq3.1.2.1.symm
  have eG : GR (mi_a h3) = GR (mi_a h) := e3.g.symm
  have hz := hz _ _ (bt_of hC hI hZ hq3) (rh_of hC hP hW hU hq3 hL3)
  obtain ⟨-, -, -, j', k', W', ⟨r1, r2, r3, r4, r5⟩, r6, ⟨Z, r7, r8⟩, -⟩ := hz
  rw [eG, f65] at r2 r7
  rw [f64] at r8
  rw [e65] at T GO
  have T1 : ∀ F : Nat, (F : Int) < g 0 2 → fm_of f F < 70 := fun F hF => (T.1 F (by omega)).1
  obtain ⟨j, k, W, c1, c2, c3, c4, c5, c6, c7, -, c10⟩ := hw
  rw [← e.g] at c2 c10
  have S := sg_same GO CO T r2 c2
  exact fun F hF a ha => sm_high hR T1 GO S e c10 r7 r8 hF ha
theorem cg_of (hT : TW f ow g Y h) (hl : TLW g h) (hp : PL g) (hk : lc_ok h) (hh : ∀ F : Nat, (F : Int) < g 0 2 → ∀ a ∈ ra_L h F, mi_a h 87 a.toNat = mi_a h 143 a.toNat ∧ mi_a h 143 a.toNat ≤ 1000) : cg_G f (fun u => ow u.toNat = u.toNat) (mi_a h) Y (gx_k h) h := by
  obtain ⟨hS, hq, hC, hP, hI, hV, hW, hZ, hL, hA⟩ := id hT
  obtain ⟨⟨p00, p01, p03, p02, p04⟩, pu, pa, pf⟩ := hP
  obtain ⟨tc1, tc2, tc3, tc4, tc5, tc6, tc7⟩ := hC
  have r : ∀ r, r ∈ rk_L → mi_a h r = g r := fun r hr => rk_g2 hq hr
  have g114 := r 114 (by decide)
  have g115 := r 115 (by decide)
  have g119 := r 119 (by decide)
  have g120 := r 120 (by decide)
  have g122 := r 122 (by decide)
  have g124 := r 124 (by decide)
  have g125 := r 125 (by decide)
  have g126 := r 126 (by decide)
  have g128 := r 128 (by decide)
  have g129 := r 129 (by decide)
  have g130 := r 130 (by decide)
  have eu : wk_u Y = g 0 0 := hL.2.1.trans hq.1.1.symm
  have ef : wk_f Y = g 0 2 := hL.2.2.1.trans hq.1.2.2.1.symm
  have e62 : mi_f h 13962 = g 0 4 := hq.1.2.2.2.2.1.symm
  refine ⟨hL.1, fun F F0 F1 => ?_, fun u u0 u1 => ?_, by rw [hl.2.1]; exact p04.2, fun c c0 c1 => ?_, fun c hc => ?_⟩
  · rw [ef] at F1
    have eF : ((F.toNat : Nat) : Int) = F := by omega
    have hFn : ((F.toNat : Nat) : Int) < g 0 2 := by omega
    obtain ⟨t1, t2⟩ := tc1 F.toNat hFn
    rw [eF] at t1 t2
    obtain ⟨f0, f1, -⟩ := hI.2.2.2 F F0 F1
    have hf6 := pf F.toNat hFn
    refine ⟨⟨f0, by omega⟩, by rw [g129]; exact t1, by rw [g130]; exact t2, by rw [g130]; exact hf6.2, fun j hj => ?_⟩
    rw [g130] at hj
    have hA' := altr hq hW hL (F := F.toNat) hFn j hj
    rw [alt_g hq, g129]
    have hm : wk_alt g j (g 129 F.toNat) ∈ ra_L h F.toNat := by
      unfold ra_L
      refine (ra_mem _ _).mpr ⟨j, by rw [g130]; omega, ?_⟩
      rw [alt_g hq, g129]
    obtain ⟨hi1, hi2⟩ := hh F.toNat hFn _ hm
    generalize wk_alt g j (g 129 F.toNat) = A at hA' hi1 hi2
    have hAn : ((A.toNat : Nat) : Int) < g 0 1 := by omega
    obtain ⟨s1, s2⟩ := tc3 A.toNat hAn
    obtain ⟨⟨s3, -⟩, s4⟩ := pa A.toNat hAn
    rw [g126, g128]
    exact ⟨⟨hA'.1, by omega⟩, s1, s2, hi1, hi2, s3, s4⟩
  · rw [eu] at u1
    have hun : ((u.toNat : Nat) : Int) < g 0 0 := by omega
    obtain ⟨t1, t2, t3, t4⟩ := tc4 u.toNat hun
    obtain ⟨t5, t6⟩ := tc5 u.toNat hun
    have hv := (hV.2.2 u.toNat hun).2.2.1
    obtain ⟨⟨q1, q2⟩, ⟨q3, q4⟩, q5, q6, q7⟩ := pu u.toNat hun
    refine ⟨by rw [g119]; exact t1, fun c9 => ?_, fun c10 => ?_, by rw [g122]; exact t4, by rw [g122]; exact hv, fun hit => ?_⟩
    · rw [g119] at c9
      obtain ⟨x1, x2⟩ := t6 c9
      have x3 := hZ u.toNat hun c9
      have x4 := tc6 (g 120 u.toNat).toNat (by omega) x3
      have x5 := (hI.1 (g 115 (g 120 u.toNat).toNat).toNat (by omega)).2
      unfold wk_rf
      rw [g115, g120, g114]
      refine ⟨?_, ?_⟩
      · rw [t2, if_pos c9]
      · rw [x5]
        omega
    · rw [g119] at c10
      rw [t2, if_neg (by omega), if_pos c10, g120]
    · have hit : ow u.toNat = u.toNat := hit
      rw [g124, g125]
      refine ⟨hl.1 u.toNat hun, q3, q6, fun hm => ?_, fun hm => ?_⟩
      · obtain ⟨w1, w2⟩ := q5 hm
        refine ⟨?_, ?_⟩
        · rw [t3]
          unfold cq_n
          rw [if_pos hm]
        · rw [(tc4 (g 124 u.toNat).toNat (by omega)).2.2.1]
          unfold cq_n
          rw [if_neg (by omega), w1]
      · rw [t3]
        unfold cq_n
        rw [if_neg hm, hit]
  · unfold gx_k
    rw [gx_kw_iff, hl.2.1, e62]
    have bs : ∀ l : Nat, (l : Int) < g 0 4 → 0 ≤ mi_a h 117 l := fun l hl' => (hk l (by rw [e62]; exact hl')).2.2
    have z0 : (0 : Int64).toInt = 0 := rfl
    constructor
    · rintro ⟨l, l1, l2⟩
      rw [hl.2.2 l l1, hq.2.2 l] at l2
      unfold lc_r at l2
      by_cases cz : (mx_b h 118 l).toInt = 0
      · rw [if_pos cz] at l2
        have := bs l l1
        omega
      · rw [if_neg cz] at l2
        exact ⟨l, l1, fun q => cz (by rw [q]; rfl), l2⟩
    · rintro ⟨l, l1, l2, l3⟩
      refine ⟨l, l1, ?_⟩
      rw [hl.2.2 l l1, hq.2.2 l]
      unfold lc_r
      rw [if_neg (fun q => l2 (Int64.toInt_inj.mp (q.trans z0.symm)))]
      exact l3
  · unfold gx_k at hc
    obtain ⟨l, l1, l2, l3⟩ := gx_kw_iff.mp hc
    have z0 : (0 : Int64).toInt = 0 := rfl
    have := hp.2 l (by omega)
    rw [hq.2.2 l] at this
    unfold lc_r at this
    rw [if_neg (fun q => l2 (Int64.toInt_inj.mp (q.trans z0.symm)))] at this
    omega
end SG0
/-! .. and what is kept of them between calls -/
def r8_kc : List Nat := [63, 64, 65, 66, 68, 69, 71, 72, 74, 75, 87, 114, 115, 118, 119, 120, 122, 124, 125, 126, 128, 129, 130, 143]
section SG1
variable {f : Int → Int} {it : Int → Prop} {Y : wk_Y} {h h' : sm_H}
theorem cg_G_eq (ha : ∀ k, k ∈ r8_kc → mi_a h' k = mi_a h k) (f98 : mi_f h' 7698 = mi_f h 7698) (hk : gx_k h' = gx_k h) (hG : cg_G f it (mi_a h) Y (gx_k h) h) : cg_G f it (mi_a h') Y (gx_k h') h' := by
  have hsub : ∀ k, k ∈ wk_gk → k ∈ r8_kc := by decide
  have hg : wk_gc (mi_a h) (mi_a h') := fun k hk i => by rw [ha k (hsub k hk)]
  obtain ⟨g1, g2, g3, g4, g5, g6⟩ := hG
  refine ⟨wk_L_g g1 hg, fun F F0 F1 => ?_, fun u u0 u1 => ?_, by rw [f98]; exact g4, fun c c0 c1 => ?_, fun c hc => g6 c (by rw [← hk]; exact hc)⟩
  · have := g2 F F0 F1
    unfold cg_F at this ⊢
    simp only [wk_alt_g hg, ha 63 (by decide), ha 64 (by decide), ha 65 (by decide), ha 66 (by decide), ha 87 (by decide), ha 126 (by decide), ha 128 (by decide), ha 129 (by decide), ha 130 (by decide), ha 143 (by decide)]
    exact this
  · have := g3 u u0 u1
    unfold cg_U at this ⊢
    simp only [wk_rf_g hg, ha 68 (by decide), ha 69 (by decide), ha 71 (by decide), ha 72 (by decide), ha 74 (by decide), ha 115 (by decide), ha 119 (by decide), ha 120 (by decide), ha 122 (by decide), ha 124 (by decide), ha 125 (by decide)]
    exact this
  · rw [hk, f98, ha 75 (by decide)]
    exact g5 c c0 c1
end SG1
/-! a kind in a set: both sides look at the same bit -/
def shn (k : Int) : Nat := ((Int32.ofInt k).toInt64 &&& 63).toBitVec.toNat
theorem shn_lt (k : Int) : shn k < 64 := by
  unfold shn
  rw [Int64.toBitVec_and, BitVec.toNat_and]
  have h : (63 : Int64).toBitVec.toNat = 2 ^ 6 - 1 := by decide
  rw [h, Nat.and_two_pow_sub_one_eq_mod]
  exact Nat.mod_lt _ (by decide)
theorem and1_n (a : Int64) : (a &&& Int64.ofNat 1).toBitVec.toNat = if tb a 0 = true then 1 else 0 := by
  rw [Int64.toBitVec_and, BitVec.toNat_and]
  have h : (Int64.ofNat 1).toBitVec.toNat = 1 := by decide
  rw [h, Nat.and_one_is_mod]
  unfold tb
  rw [← BitVec.testBit_toNat, Nat.testBit_zero]
  have := Nat.mod_two_eq_zero_or_one a.toBitVec.toNat
  split
  · next q =>
    rw [decide_eq_true_eq] at q
    exact q
  · next q =>
    rw [decide_eq_true_eq] at q
    omega
theorem and1_1 (a : Int64) : a &&& Int64.ofNat 1 = Int64.ofNat 1 ↔ tb a 0 = true := by
  have n := and1_n a
  have h1 : (Int64.ofNat 1).toBitVec.toNat = 1 := by decide
  constructor
  · intro e
    rw [e, h1] at n
    split at n
    · next q => exact q
    · omega
  · intro e
    rw [if_pos e] at n
    exact Int64.toBitVec_inj.mp (BitVec.eq_of_toNat_eq (n.trans h1.symm))
theorem and1_0 (a : Int64) : a &&& Int64.ofNat 1 = Int64.ofNat 0 ↔ ¬ tb a 0 = true := by
  have n := and1_n a
  have h1 : (Int64.ofNat 0).toBitVec.toNat = 0 := by decide
  constructor
  · intro e q
    rw [e, h1, if_pos q] at n
    omega
  · intro e
    rw [if_neg e] at n
    exact Int64.toBitVec_inj.mp (BitVec.eq_of_toNat_eq (n.trans h1.symm))
set_option maxRecDepth 4000 in
theorem smod64 : ∀ n : Fin 64, ((BitVec.ofNat 64 n.val).smod 64#64).toNat = n.val := by decide
theorem sar_0 (x : Int64) (k : Int) : tb (x >>> ((Int32.ofInt k).toInt64 &&& 63)) 0 = tb x (shn k) := by
  have hl := shn_lt k
  obtain ⟨s, hs⟩ : ∃ s, s = (Int32.ofInt k).toInt64 &&& 63 := ⟨_, rfl⟩
  have en : shn k = s.toBitVec.toNat := by rw [hs]; rfl
  rw [← hs]
  rw [en] at hl ⊢
  have eb : s.toBitVec = BitVec.ofNat 64 s.toBitVec.toNat := BitVec.eq_of_toNat_eq (by rw [BitVec.toNat_ofNat, Nat.mod_eq_of_lt s.toBitVec.isLt])
  have em : (s.toBitVec.smod 64#64).toNat = s.toBitVec.toNat := by
    have := smod64 ⟨s.toBitVec.toNat, hl⟩
    dsimp only at this
    rw [← eb] at this
    exact this
  unfold tb
  rw [Int64.toBitVec_shiftRight]
  show (x.toBitVec.sshiftRight (s.toBitVec.smod 64#64).toNat).getLsbD 0 = _
  rw [em, BitVec.getLsbD_sshiftRight]
  simp [hl]
theorem shr_0 (x : Int64) (k : Int) : tb ((x.toUInt64 >>> ((Int32.ofInt k).toInt64.toUInt64 &&& Int64.toUInt64 63)).toInt64) 0 = tb x (shn k) := by
  have hl := shn_lt k
  obtain ⟨t, ht⟩ : ∃ t, t = (Int32.ofInt k).toInt64.toUInt64 &&& Int64.toUInt64 63 := ⟨_, rfl⟩
  have en : shn k = t.toBitVec.toNat := by rw [ht]; rfl
  rw [← ht]
  rw [en] at hl ⊢
  show (x.toUInt64 >>> t).toBitVec.getLsbD 0 = _
  rw [UInt64.toBitVec_shiftRight]
  have em : (t.toBitVec % 64#64).toNat = t.toBitVec.toNat := by
    rw [BitVec.toNat_umod]
    exact Nat.mod_eq_of_lt hl
  show (x.toBitVec >>> (t.toBitVec % 64#64).toNat).getLsbD 0 = _
  rw [em, BitVec.getLsbD_ushiftRight]
  rfl
theorem lgc_0 (a b : Int64) : (lg_cmp a b).toInt = 0 ↔ a = b := by
  unfold lg_cmp
  constructor
  · intro h
    split at h
    · exact absurd h (by decide)
    · split at h
      · next q => exact q
      · exact absurd h (by decide)
  · intro h
    rw [h, if_neg (by rw [gt_iff_lt, Int64.lt_iff_toInt_lt]; omega), if_pos rfl]
    rfl
theorem px_bit_t (x : Int64) (k : Int) : px_bit x k = true ↔ 0 ≤ k ∧ tb x (shn k) = true := by
  unfold px_bit
  rw [decide_eq_true_eq, lgc_0, and1_1, sar_0]
theorem pq_bit_t (x : Int64) (k : Int) : pq_bit x k = true ↔ 0 ≤ k ∧ tb x (shn k) = true := by
  unfold pq_bit
  rw [decide_eq_true_eq, ne_eq, lgc_0, and1_0, Classical.not_not, shr_0]
theorem pq_px (x : Int64) (k : Int) : pq_bit x k = px_bit x k := by
  have h := (pq_bit_t x k).trans (px_bit_t x k).symm
  cases h1 : pq_bit x k with
  | true => exact (h.mp h1).symm
  | false =>
    cases h2 : px_bit x k with
    | true => rw [h.mpr h2] at h1; cases h1
    | false => rfl
/-! after both have compiled: the sets are the same; what parse asks of them -/
def ss_R (g : wk_g) (h : sm_H) : Prop := (∀ u : Nat, (u : Int) < g 0 0 → mx_b h 90 u = mx_b h 134 u) ∧ (∀ F : Nat, (F : Int) < g 0 2 → ∀ a ∈ ra_L h F, mx_b h 88 a.toNat = jd h F a.toNat) ∧ ∃ X Z : sp_X, sp_fix (g 0 2).toNat (GR (mi_a h)) X ∧ (∀ u : Int, 0 ≤ u → u < g 0 0 → rq_ok (rv_p (mi_a h)) X h u) ∧ sp_eq (g 0 2).toNat Z X ∧ ∀ a : Int, 0 ≤ a → a < g 0 1 → ap_ok Z h a
section SSM
variable {f : Int → Int} {ow : Nat → Nat} {g : wk_g} {Y : wk_Y} {hb h h3 : sm_H} {o : Nat → Nat}
theorem sets_same (hT : TW f ow g Y h) (h1 : 1 ≤ g 0 3) (hK : PKr o g) (e : cv_eq hb h) (hw : wx_B hb h) (hS3 : ab_Sh sx_sk h3) (hF3 : ab_Fr sy_W h3 h) (hq3 : RQ g h3) (hL3 : sy_L h3 Y) (hz : ∀ (β : Int → Int64) (ρ : Int → List Int), bt_ok β h3 → rh_ok h3 ρ → sz_Z β ρ h3 none h) : ss_R g h := by
  obtain ⟨T, hF⟩ := TW_two hT
  obtain ⟨hS, hq, hC, hP, hI, hV, hW, hZ, hL, hA⟩ := id hT
  have hU := hF.1
  have hR : sd_R f ow g Y h := ⟨hq, hC, hP, hI, hV, hW, hZ, hL, hU⟩
  have e3 : rv_eq h3 h := rv_eq_fr hF3 hS3 rfl
  have GO := sy_OK hL (TW_A hq hW hL)
  have CO := cv_OK hF
  have e65 : mi_f h 13965 = g 0 2 := hq.1.2.2.1.symm
  have f65 : mi_f h3 13965 = g 0 2 := hq3.1.2.2.1.symm
  have f63 : mi_f h3 13963 = g 0 0 := hq3.1.1.symm
  have f64 : mi_f h3 13964 = g 0 1 := hq3.1.2.1.symm
  have eG : GR (mi_a h3) = GR (mi_a h) := e3.g.symm
  have eP : rv_p (mi_a h3) = rv_p (mi_a h) := e3.p.symm
  have g114 : mi_a h3 114 = g 114 := rk_g2 hq3 (by decide)
  have hz := hz _ _ (bt_of hC hI hZ hq3) (rh_of hC hP hW hU hq3 hL3)
  obtain ⟨-, -, -, j', k', W', ⟨r1, r2, r3, r4, r5⟩, r6, ⟨Z, r7, r8⟩, r9, ra, rb, rc⟩ := hz
  rw [eG, f65] at r1 r2 r4 r5 r7 r9
  rw [f65, g114] at r3
  rw [f63, eG, eP] at r6
  rw [f64] at r8
  rw [e65] at T GO
  have T1 : ∀ F : Nat, (F : Int) < g 0 2 → fm_of f F < 70 := fun F hF => (T.1 F (by omega)).1
  obtain ⟨j, k, W, c1, c2, c3, c4, c5, c6, c7, ⟨i, c8, c9⟩, -⟩ := hw
  rw [← e.g] at c1 c2 c4 c5 c6 c7 c8 c9
  have S := sg_same GO CO T r2 c2
  have f0 := sm_fr hI 0 (by omega)
  have SW := sg_sameW GO CO T S (WR := W') (WC := W) (k := k') (k' := k) (fun F hF' => by
    have k1 := (T.1 F hF').1
    rw [c3 _ k1, r3 F (by omega)]
    by_cases c : (F : Int) = g 114 0
    · rw [if_pos c, if_pos]
      have : F = (g 114 0).toNat := by omega
      rw [this]
      exact f0.2
    · rw [if_neg c, if_neg]
      intro q
      refine c ?_
      have := T.2.1 F (g 114 0).toNat hF' (by omega) (q.trans f0.2.symm)
      omega) (fun i hi hn => by
    rw [c3 i hi, if_neg]
    intro q
    exact hn (g 114 0).toNat (by omega) (by rw [q]; exact f0.2)) r5 c5
  have W81 : ∀ F : Nat, (F : Int) < g 0 2 → mx_b h 81 (fm_of f F) = mx_b h 138 F := fun F hF => by
    rw [c4, r4]
    exact (SW F (by omega)).symm
  refine ⟨fun u hu => (sm_part hR hK T1 S e e3 hq3 c6 r6 (fun F hF u hu => by rw [r4 F]; exact r9 F hF u hu) W81 u hu).2.1, fun F hF a ha => sm_dirs hR T1 GO S e c7 r7 r8 W81 hF ha, _, Z, r2, r6, r7, r8⟩
end SSM
section SFT
variable {X : sp_X} {b : Nat}
theorem sf_tb : ∀ L : List (List sp_P), tb (sf_s X L) b = true → ∃ us ∈ L, tb (sa_s X us) b = true := by
  intro L
  induction L with
  | nil =>
    intro h
    have h : tb 0 b = true := h
    rw [tb_0] at h
    cases h
  | cons a r ih =>
    intro h
    rw [sf_s_c, tb_or, Bool.or_eq_true] at h
    rcases h with h | h
    · exact ⟨a, List.mem_cons_self, h⟩
    · obtain ⟨us, u1, u2⟩ := ih h
      exact ⟨us, List.mem_cons_of_mem _ u1, u2⟩
theorem sa_tb : ∀ L : List sp_P, tb (sa_s X L) b = true → ∃ p ∈ L, tb (sp_s X p) b = true := by
  intro L
  induction L with
  | nil =>
    intro h
    have h : tb 0 b = true := h
    rw [tb_0] at h
    cases h
  | cons a r ih =>
    intro h
    rw [sa_s_c] at h
    split at h
    · rw [tb_or, Bool.or_eq_true] at h
      rcases h with h | h
      · exact ⟨a, List.mem_cons_self, h⟩
      · obtain ⟨us, u1, u2⟩ := ih h
        exact ⟨us, List.mem_cons_of_mem _ u1, u2⟩
    · exact ⟨a, List.mem_cons_self, h⟩
theorem row_it {g : wk_g} {w : Int} : ∀ (n : Nat) (u : Int), w ∈ wk_row g n u → ∃ o, ((0, w, o) : wk_E) ∈ wk_it g n u := by
  intro n
  induction n with
  | zero => intro u h; cases h
  | succ n ih =>
    intro u h
    rw [wk_row] at h
    rw [wk_it]
    by_cases c : u < 0
    · rw [if_pos c] at h
      cases h
    · rw [if_neg c] at h ⊢
      by_cases cm : 0 ≤ g 124 u.toNat
      · rw [if_pos cm] at h ⊢
        rcases List.mem_cons.mp h with h | h
        · exact ⟨1, by rw [h]; exact List.mem_cons_self⟩
        · rcases List.mem_cons.mp h with h | h
          · exact ⟨0, by rw [h]; exact List.mem_cons_of_mem _ (List.mem_cons_of_mem _ List.mem_cons_self)⟩
          · obtain ⟨o, ho⟩ := ih _ h
            exact ⟨o, List.mem_cons_of_mem _ (List.mem_cons_of_mem _ (List.mem_cons_of_mem _ (List.mem_cons_of_mem _ ho)))⟩
      · rw [if_neg cm] at h ⊢
        rcases List.mem_cons.mp h with h | h
        · exact ⟨0, by rw [h]; exact List.mem_cons_self⟩
        · obtain ⟨o, ho⟩ := ih _ h
          exact ⟨o, List.mem_cons_of_mem _ ho⟩
theorem k8_dis {dir : Nat → Int64} {pl : Nat → Int} {g : wk_g} : ∀ (m : Nat) (a : Int) (c : Int64), (∀ x, ¬ k8l dir pl (ra_l g m a) c x) → (∀ (j s : Nat), j < m → tb (dir (wk_alt g j a).toNat) s = true → tb c s = true → False) ∧ ∀ (i j s : Nat), i < j → j < m → tb (dir (wk_alt g i a).toNat) s = true → tb (dir (wk_alt g j a).toNat) s = true → False := by
  intro m
  induction m with
  | zero => intro a c _; exact ⟨fun j s hj => absurd hj (Nat.not_lt_zero _), fun i j s _ hj => absurd hj (Nat.not_lt_zero _)⟩
  | succ m ih =>
    intro a c h
    have h1 : dir a.toNat &&& c = 0 := Classical.byContradiction fun q => h (8 + 16 * pl a.toNat) (Or.inl ⟨q, rfl⟩)
    obtain ⟨i1, i2⟩ := ih (g 128 a.toNat) (c ||| dir a.toNat) (fun x q => h x (Or.inr q))
    refine ⟨fun j s hj q1 q2 => ?_, fun i j s hij hj q1 q2 => ?_⟩
    · cases j with
      | zero =>
        have q1 : tb (dir a.toNat) s = true := q1
        have := tb_and (dir a.toNat) c s
        rw [h1, tb_0, q1, q2] at this
        cases this
      | succ j => exact i1 j s (by omega) q1 (by rw [tb_or, q2]; rfl)
    · cases j with
      | zero => omega
      | succ j =>
        cases i with
        | zero =>
          have q1 : tb (dir a.toNat) s = true := q1
          exact i1 j s (by omega) q2 (by rw [tb_or, q1, Bool.or_true])
        | succ i => exact i2 i j s (by omega) (by omega) q1 q2
end SFT
/-- the reference's sets, for kinds of which B holds -/
def px_B (B : Int → Bool) (E1 E2 : Int → Int) (h : sm_H) : pm_E := (E1, E2, fun u k => px_bit (mx_b h 134 u.toNat) k && B k, fun f a k => px_bit (px_dir (mi_a h 132 a.toNat) (mx_b h 135 a.toNat) (mx_b h 138 f.toNat)) k && B k)
theorem px_B_t {E1 E2 : Int → Int} {h : sm_H} : px_B (fun _ => true) E1 E2 h = (E1, E2, (px_E h).2.2) := by
  unfold px_B px_E
  simp only [Bool.and_true]
theorem pxd_jd {h : sm_H} {F a : Nat} : px_dir (mi_a h 132 a) (mx_b h 135 a) (mx_b h 138 F) = jd h F a := by
  unfold px_dir jd
  by_cases c : mi_a h 132 a = 0
  · rw [if_pos c, if_neg (fun q => q c)]
    rfl
  · rw [if_neg c, if_pos c]
section HSO
variable {f : Int → Int} {ow : Nat → Nat} {g : wk_g} {Y : wk_Y} {h : sm_H} {B : Int → Bool} {E1 E2 : Int → Int}
theorem hs_of (hT : TW f ow g Y h) (hs : ss_R g h) (hz0 : ∀ x, ¬ j_8 h (mi_f h 13965) x) : ∃ pf pa, pm_Hs (mi_a h) Y (px_B B E1 E2 h) pf pa := by
  obtain ⟨hS, hq, hC, hP, hI, hV, hW, hZ, hL, hA⟩ := id hT
  obtain ⟨s1, s2, X, Z, s3, s4, s5, s6⟩ := hs
  have eu : wk_u Y = g 0 0 := hL.2.1.trans hq.1.1.symm
  have ef : wk_f Y = g 0 2 := hL.2.2.1.trans hq.1.2.2.1.symm
  have e65 : mi_f h 13965 = g 0 2 := hq.1.2.2.1.symm
  have GO := sy_OK hL (TW_A hq hW hL)
  rw [e65] at GO
  have alt_in : ∀ (F : Int) (j : Nat), 0 ≤ F → F < wk_f Y → (j : Int) < mi_a h 130 F.toNat → (0 ≤ wk_alt (mi_a h) j (mi_a h 129 F.toNat) ∧ wk_alt (mi_a h) j (mi_a h 129 F.toNat) < g 0 1) ∧ rv_l (mi_a h) (wk_alt (mi_a h) j (mi_a h 129 F.toNat)) ∈ GR (mi_a h) F.toNat := by
    intro F j F0 F1 hj
    have e130 : mi_a h 130 = g 130 := rk_g2 hq (by decide)
    have e129 : mi_a h 129 = g 129 := rk_g2 hq (by decide)
    refine ⟨?_, ?_⟩
    · have := altr hq hW hL (F := F.toNat) (by omega) j (by rw [← e130]; exact hj)
      rw [alt_g hq, e129]
      exact this
    · show _ ∈ rv_as (mi_a h) (mi_a h 130 F.toNat).toNat (mi_a h 129 F.toNat)
      rw [rv_as_ra]
      exact List.mem_map.mpr ⟨_, (ra_mem _ _).mpr ⟨j, by omega, rfl⟩, rfl⟩
  refine ⟨fun F k => px_bit (X.2.1 F.toNat) k && B k, fun a k => px_bit (sa_s X (rv_l (mi_a h) a)) k && B k, ?_, ?_, ?_, ?_⟩
  · -- parts
    intro u k u0 u1 hk
    have hk : (px_bit (mx_b h 134 u.toNat) k && B k) = true := hk
    rw [Bool.and_eq_true] at hk
    obtain ⟨hk, hB⟩ := hk
    rw [(s4 u u0 (by omega)).2] at hk
    obtain ⟨-, -, -, k9, k10, -⟩ := hL.1.2.2.1 u u0 u1
    have e1 : (rv_p (mi_a h) u).1 = rv_t (mi_a h) u := rfl
    have e5 : (rv_p (mi_a h) u).2.2.2.2 = pb_s (mi_a h 119 u.toNat) (mi_a h 120 u.toNat) := rfl
    unfold sp_s at hk
    rw [e1, e5] at hk
    refine ⟨fun c9 => ?_, fun c10 => ?_, ?_⟩
    · obtain ⟨-, -, -, -, r1, -⟩ := k9 c9
      have et : rv_t (mi_a h) u = wk_rf (mi_a h) u := by
        unfold rv_t wk_rf
        rw [if_neg (show ¬ mi_a h 119 u.toNat = 10 by omega), if_pos c9]
      rw [et, if_pos r1] at hk
      show (px_bit (X.2.1 (wk_rf (mi_a h) u).toNat) k && B k) = true
      rw [Bool.and_eq_true]
      exact ⟨hk, hB⟩
    · obtain ⟨r1, -⟩ := k10 c10
      have et : rv_t (mi_a h) u = mi_a h 120 u.toNat := by
        unfold rv_t
        rw [if_pos c10]
      rw [et, if_pos r1] at hk
      show (px_bit (X.2.1 (mi_a h 120 u.toNat).toNat) k && B k) = true
      rw [Bool.and_eq_true]
      exact ⟨hk, hB⟩
    · by_cases c10 : mi_a h 119 u.toNat = 10
      · exact Or.inr (Or.inr (Or.inr (Or.inr c10)))
      by_cases c9 : mi_a h 119 u.toNat = 9
      · exact Or.inr (Or.inr (Or.inr (Or.inl c9)))
      have et : rv_t (mi_a h) u = -1 := by
        unfold rv_t
        rw [if_neg c10, if_neg c9]
      rw [et, if_neg (show ¬ (0 : Int) ≤ -1 by decide)] at hk
      unfold pb_s at hk
      by_cases c1 : mi_a h 119 u.toNat = 1
      · exact Or.inl c1
      by_cases c2 : mi_a h 119 u.toNat = 2
      · exact Or.inr (Or.inl c2)
      by_cases c8 : mi_a h 119 u.toNat = 8
      · exact Or.inr (Or.inr (Or.inl c8))
      rw [if_neg c1, if_neg c2, if_neg c8] at hk
      have := ((px_bit_t _ _).mp hk).2
      have this : tb 0 (shn k) = true := this
      rw [tb_0] at this
      cases this
  · -- forms
    intro F k F0 F1 hk
    have hk : (px_bit (X.2.1 F.toNat) k && B k) = true := hk
    rw [Bool.and_eq_true] at hk
    obtain ⟨hk, hB⟩ := hk
    obtain ⟨k0, hk⟩ := (px_bit_t _ _).mp hk
    rw [← (s3 F.toNat (by omega)).2.1] at hk
    obtain ⟨us, u1, u2⟩ := sf_tb _ hk
    have u1 : us ∈ rv_as (mi_a h) (mi_a h 130 F.toNat).toNat (mi_a h 129 F.toNat) := u1
    rw [rv_as_ra] at u1
    obtain ⟨a, a1, a2⟩ := List.mem_map.mp u1
    obtain ⟨j, j1, j2⟩ := (ra_mem _ _).mp a1
    refine ⟨j, by omega, ?_⟩
    show (px_bit (sa_s X (rv_l (mi_a h) (wk_alt (mi_a h) j (mi_a h 129 F.toNat)))) k && B k) = true
    rw [Bool.and_eq_true]
    refine ⟨(px_bit_t _ _).mpr ⟨k0, ?_⟩, hB⟩
    rw [← j2, a2]
    exact u2
  · -- alternatives
    intro F k j F0 F1 hj hk
    have hk : (px_bit (sa_s X (rv_l (mi_a h) (wk_alt (mi_a h) j (mi_a h 129 F.toNat)))) k && B k) = true := hk
    rw [Bool.and_eq_true] at hk
    obtain ⟨hk, hB⟩ := hk
    obtain ⟨k0, hk⟩ := (px_bit_t _ _).mp hk
    obtain ⟨⟨a0, a1⟩, am⟩ := alt_in F j F0 F1 hj
    refine ⟨?_, ?_⟩
    · show (px_bit (px_dir (mi_a h 132 (wk_alt (mi_a h) j (mi_a h 129 F.toNat)).toNat) (mx_b h 135 (wk_alt (mi_a h) j (mi_a h 129 F.toNat)).toNat) (mx_b h 138 F.toNat)) k && B k) = true
      rw [Bool.and_eq_true]
      refine ⟨(px_bit_t _ _).mpr ⟨k0, ?_⟩, hB⟩
      obtain ⟨-, y2, -⟩ := s6 _ a0 a1
      have ok := (GO F.toNat (by omega) _ am).1
      obtain ⟨-, t2⟩ := sa_vs s5 ok
      rw [y2, t2]
      unfold px_dir
      split
      · rw [tb_or, hk]; rfl
      · rw [tb_or, hk]; rfl
    · obtain ⟨p, p1, p2⟩ := sa_tb _ hk
      have p1 : p ∈ (wk_row (mi_a h) 61 (mi_a h 126 (wk_alt (mi_a h) j (mi_a h 129 F.toNat)).toNat)).map (rv_p (mi_a h)) := p1
      obtain ⟨w, w1, w2⟩ := List.mem_map.mp p1
      obtain ⟨oo, ho⟩ := row_it 61 _ w1
      have fc := (fr_c hL.1 (F := F.toNat) (u := w) (by omega) ⟨j, hj, w1⟩).1
      refine ⟨w, oo, ho, fc.1, fc.2, ?_⟩
      show (px_bit (mx_b h 134 w.toNat) k && B k) = true
      rw [Bool.and_eq_true]
      refine ⟨(px_bit_t _ _).mpr ⟨k0, ?_⟩, hB⟩
      rw [(s4 w fc.1 (by omega)).2, w2]
      exact p2
  · -- no director twice
    intro F k i j F0 F1 hi hj hk1 hk2
    have hk1 : (px_bit (px_dir (mi_a h 132 (wk_alt (mi_a h) i (mi_a h 129 F.toNat)).toNat) (mx_b h 135 (wk_alt (mi_a h) i (mi_a h 129 F.toNat)).toNat) (mx_b h 138 F.toNat)) k && B k) = true := hk1
    have hk2 : (px_bit (px_dir (mi_a h 132 (wk_alt (mi_a h) j (mi_a h 129 F.toNat)).toNat) (mx_b h 135 (wk_alt (mi_a h) j (mi_a h 129 F.toNat)).toNat) (mx_b h 138 F.toNat)) k && B k) = true := hk2
    rw [Bool.and_eq_true, pxd_jd] at hk1 hk2
    have t1 := ((px_bit_t _ _).mp hk1.1).2
    have t2 := ((px_bit_t _ _).mp hk2.1).2
    have hn : ∀ x, ¬ k8l (jd h F.toNat) (mi_a h 127) (ra_l (mi_a h) (mi_a h 130 F.toNat).toNat (mi_a h 129 F.toNat)) 0 x := fun x q => hz0 x ⟨F.toNat, by omega, q⟩
    obtain ⟨-, d2⟩ := k8_dis _ _ _ hn
    rcases Nat.lt_trichotomy i j with c | c | c
    · exact (d2 i j (shn k) c (by omega) t1 t2).elim
    · exact c
    · exact (d2 j i (shn k) c (by omega) t2 t1).elim
theorem pmx_of (hT : TW f ow g Y h) (hn : NE0 g) : pm_x Y := by
  obtain ⟨hS, hq, hC, hP, hI, hV, hW, hZ, hL, hA⟩ := id hT
  intro F F0 F1
  have ef : wk_f Y = g 0 2 := hL.2.2.1.trans hq.1.2.2.1.symm
  obtain ⟨-, -, d3, -, -, d5⟩ := hL.1.2.2.2 F F0 F1
  have e130 : mi_a h 130 = g 130 := rk_g2 hq (by decide)
  have e129 : mi_a h 129 = g 129 := rk_g2 hq (by decide)
  have e126 : mi_a h 126 = g 126 := rk_g2 hq (by decide)
  obtain ⟨a0, -, a2⟩ := d5 0 (by omega)
  have al := altr hq hW hL (F := F.toNat) (by omega) 0 (by rw [← e130]; omega)
  have a0 : 0 ≤ mi_a h 129 F.toNat := a0
  have a2 : mi_a h 126 (mi_a h 129 F.toNat).toNat < 0 ∨ (mi_a h 126 (mi_a h 129 F.toNat).toNat < wk_u Y ∧ wk_c Y (mi_a h 126 (mi_a h 129 F.toNat).toNat) = F) := a2
  have al : 0 ≤ g 129 F.toNat ∧ g 129 F.toNat < g 0 1 := al
  have i0 := hn.2 (g 129 F.toNat).toNat (by omega)
  rw [← e126, ← e129] at i0
  obtain ⟨b1, b2⟩ := a2.resolve_left (by omega)
  obtain ⟨⟨c1, c2, c3, -⟩, -⟩ := hL.1.2.2.1 _ i0 b1
  rw [b2] at c2 c3
  omega
end HSO
/-! after both have compiled: tops, codes, sets, as the walks want them -/
def lsi (t : Nat → Int) : List Int → Int
  | [] => 0
  | u :: r => t u.toNat + lsi t r
theorem lsi_nn {t : Nat → Int} : ∀ l : List Int, (∀ y ∈ l, 0 ≤ t y.toNat) → 0 ≤ lsi t l := by
  intro l
  induction l with
  | nil => intro _; exact Int.le_refl _
  | cons u r ih =>
    intro h
    have h1 := h u List.mem_cons_self
    have h2 := ih (fun y hy => h y (List.mem_cons_of_mem _ hy))
    show 0 ≤ t u.toNat + lsi t r
    omega
theorem lsw_lsi {t : Nat → Int} : ∀ (l : List Int) (z : Int), (∀ y ∈ l, 0 ≤ t y.toNat) → 0 ≤ z → z + lsi t l ≤ 1000000 → lsw t z l = z + lsi t l := by
  intro l
  induction l with
  | nil => intro z _ _ _; exact (Int.add_zero z).symm
  | cons u r ih =>
    intro z h z0 z1
    have h1 := h u List.mem_cons_self
    have h2 := lsi_nn r (fun y hy => h y (List.mem_cons_of_mem _ hy))
    have z1 : z + (t u.toNat + lsi t r) ≤ 1000000 := z1
    show lsw t ((Int32.ofInt z + Int32.ofInt (t u.toNat)).toInt) r = z + (t u.toNat + lsi t r)
    rw [i32_add ⟨by omega, by omega⟩ ⟨by omega, by omega⟩, ih (z + t u.toNat) (fun y hy => h y (List.mem_cons_of_mem _ hy)) (by omega) (by omega)]
    omega
section TTO
variable {f : Int → Int} {it : Int → Prop} {g : wk_g} {Y : wk_Y} {kw : Int → Bool} {h : sm_H}
/-- a line of parts: what both sides sum up -/
theorem tt_line {t : Nat → Int} (hG : cg_G f it g Y kw h) {u0 F : Int} (hP : ∀ v, u0 < v → v < wk_u Y → 0 ≤ v → 0 ≤ t v.toNat ∧ t v.toNat ≤ min (wk_e Y v) (wk_u Y) - v) (hu : -1 ≤ u0) : ∀ (k : Nat) (p : Int) (n m : Nat), (p = -1 ∨ (u0 < p ∧ p < wk_u Y ∧ it p ∧ wk_c Y p = F ∧ wk_u Y - p ≤ k ∧ wk_u Y - p ≤ n ∧ wk_u Y - p ≤ m)) → lsi t (cv_row h n p) = itt (fun p => t p.toNat) (wk_it g m p) ∧ (∀ y ∈ cv_row h n p, 0 ≤ t y.toNat) ∧ 0 ≤ lsi t (cv_row h n p) ∧ (p ≠ -1 → lsi t (cv_row h n p) ≤ min (wk_x Y F) (wk_u Y) - p) := by
  have nil : ∀ n m : Nat, lsi t (cv_row h n (-1)) = itt (fun p => t p.toNat) (wk_it g m (-1)) ∧ (∀ y ∈ cv_row h n (-1), 0 ≤ t y.toNat) ∧ 0 ≤ lsi t (cv_row h n (-1)) := by
    intro n m
    have e1 : cv_row h n (-1) = [] := by
      cases n with
      | zero => rfl
      | succ n => rw [cv_row_c, if_pos rfl]
    have e2 : wk_it g m (-1) = [] := by
      cases m with
      | zero => rfl
      | succ m => rw [wk_it, if_pos (by decide)]
    rw [e1, e2]
    exact ⟨rfl, fun y hy => absurd hy List.not_mem_nil, Int.le_refl _⟩
  intro k
  induction k with
  | zero =>
    intro p n m hp
    rcases hp with e | ⟨p1, p2, -, -, p5, -⟩
    · subst e
      obtain ⟨a, b, c⟩ := nil n m
      exact ⟨a, b, c, fun q => absurd rfl q⟩
    · omega
  | succ k ih =>
    intro p n m hp
    rcases hp with e | ⟨p1, p2, pit, pc, p5, p6, p7⟩
    · subst e
      obtain ⟨a, b, c⟩ := nil n m
      exact ⟨a, b, c, fun q => absurd rfl q⟩
    have p0 : 0 ≤ p := by omega
    obtain ⟨n, rfl⟩ : ∃ i, n = i + 1 := ⟨n - 1, by omega⟩
    obtain ⟨m, rfl⟩ : ∃ i, m = i + 1 := ⟨m - 1, by omega⟩
    obtain ⟨-, -, -, -, -, hU⟩ := hG.2.2.1 p p0 p2
    obtain ⟨-, x125, it125, pairs, plain⟩ := hU pit
    obtain ⟨⟨l1, l2, -⟩, lm, ln, -⟩ := hG.1.2.2.1 p p0 p2
    obtain ⟨t0, t1⟩ := hP p p1 p2 p0
    rw [pc] at l2
    have nx : ∀ (n' m' : Nat), (0 ≤ g 125 p.toNat → wk_u Y - g 125 p.toNat ≤ n' ∧ wk_u Y - g 125 p.toNat ≤ m') → lsi t (cv_row h n' (g 125 p.toNat)) = itt (fun p => t p.toNat) (wk_it g m' (g 125 p.toNat)) ∧ (∀ y ∈ cv_row h n' (g 125 p.toNat), 0 ≤ t y.toNat) ∧ 0 ≤ lsi t (cv_row h n' (g 125 p.toNat)) ∧ (g 125 p.toNat ≠ -1 → lsi t (cv_row h n' (g 125 p.toNat)) ≤ min (wk_x Y F) (wk_u Y) - g 125 p.toNat) ∧ (g 125 p.toNat = -1 → lsi t (cv_row h n' (g 125 p.toNat)) = 0) := by
      intro n' m' hn
      have z : g 125 p.toNat = -1 → lsi t (cv_row h n' (g 125 p.toNat)) = 0 := fun q => by
        rw [q]
        cases n' with
        | zero => rfl
        | succ n' => rw [cv_row_c, if_pos rfl]; rfl
      by_cases c : 0 ≤ g 125 p.toNat
      · obtain ⟨a1, a2, a3, -⟩ := ln c
        obtain ⟨i1, i2, i3, i4⟩ := ih (g 125 p.toNat) n' m' (Or.inr ⟨by omega, a1, it125 c, a2.trans pc, by omega, (hn c).1, (hn c).2⟩)
        exact ⟨i1, i2, i3, i4, z⟩
      · obtain ⟨i1, i2, i3, i4⟩ := ih (g 125 p.toNat) n' m' (Or.inl (by omega))
        exact ⟨i1, i2, i3, i4, z⟩
    by_cases cm : 0 ≤ g 124 p.toNat
    · obtain ⟨a71, b71⟩ := pairs cm
      obtain ⟨m1, m2, m3, m4⟩ := lm cm
      obtain ⟨⟨w1, w2, -⟩, -⟩ := hG.1.2.2.1 (g 124 p.toNat) cm m1
      rw [m2, pc] at w2
      obtain ⟨q0, q1⟩ := hP (g 124 p.toNat) (by omega) m1 cm
      obtain ⟨n, rfl⟩ : ∃ i, n = i + 1 := ⟨n - 1, by omega⟩
      obtain ⟨i1, i2, i3, i4, i5⟩ := nx n m (fun c => by
        have := (ln c).2.2.2 cm
        omega)
      have e1 : cv_row h (n + 1 + 1) p = p :: g 124 p.toNat :: cv_row h n (g 125 p.toNat) := by
        rw [cv_row_c, if_neg (by omega), a71, cv_row_c, if_neg (by omega), b71]
      have e2 : wk_it g (m + 1) p = (0, p, 1) :: (3, 0, 0) :: (0, g 124 p.toNat, 0) :: (4, 0, 0) :: wk_it g m (g 125 p.toNat) := by rw [wk_it, if_neg (by omega), if_pos cm]
      rw [e1, e2]
      have s1 : lsi t (p :: g 124 p.toNat :: cv_row h n (g 125 p.toNat)) = t p.toNat + (t (g 124 p.toNat).toNat + lsi t (cv_row h n (g 125 p.toNat))) := rfl
      have s2 : itt (fun p => t p.toNat) ((0, p, 1) :: (3, 0, 0) :: (0, g 124 p.toNat, 0) :: (4, 0, 0) :: wk_it g m (g 125 p.toNat)) = t p.toNat + (t (g 124 p.toNat).toNat + itt (fun p => t p.toNat) (wk_it g m (g 125 p.toNat))) := by
        show (if (0 : Int) = 0 then t p.toNat else 0) + ((if (3 : Int) = 0 then t (0 : Int).toNat else 0) + ((if (0 : Int) = 0 then t (g 124 p.toNat).toNat else 0) + ((if (4 : Int) = 0 then t (0 : Int).toNat else 0) + itt (fun p => t p.toNat) (wk_it g m (g 125 p.toNat))))) = _
        rw [if_pos rfl, if_pos rfl, if_neg (by decide), if_neg (by decide)]
        omega
      rw [s1, s2, ← i1]
      refine ⟨rfl, fun y hy => ?_, by omega, fun _ => ?_⟩
      · rcases List.mem_cons.mp hy with e | hy
        · rw [e]; exact t0
        · rcases List.mem_cons.mp hy with e | hy
          · rw [e]; exact q0
          · exact i2 y hy
      · by_cases c : g 125 p.toNat = -1
        · rw [i5 c]
          omega
        · have := i4 c
          have := (ln (by omega)).2.2.2 cm
          omega
    · have a71 := plain cm
      obtain ⟨i1, i2, i3, i4, i5⟩ := nx n m (fun c => by
        have := (ln c).2.2.1
        omega)
      have e1 : cv_row h (n + 1) p = p :: cv_row h n (g 125 p.toNat) := by rw [cv_row_c, if_neg (by omega), a71]
      have e2 : wk_it g (m + 1) p = (0, p, 0) :: wk_it g m (g 125 p.toNat) := by rw [wk_it, if_neg (by omega), if_neg cm]
      rw [e1, e2]
      have s1 : lsi t (p :: cv_row h n (g 125 p.toNat)) = t p.toNat + lsi t (cv_row h n (g 125 p.toNat)) := rfl
      have s2 : itt (fun p => t p.toNat) ((0, p, 0) :: wk_it g m (g 125 p.toNat)) = t p.toNat + itt (fun p => t p.toNat) (wk_it g m (g 125 p.toNat)) := by
        show (if (0 : Int) = 0 then t p.toNat else 0) + itt (fun p => t p.toNat) (wk_it g m (g 125 p.toNat)) = _
        rw [if_pos rfl]
      rw [s1, s2, ← i1]
      refine ⟨rfl, fun y hy => ?_, by omega, fun _ => ?_⟩
      · rcases List.mem_cons.mp hy with e | hy
        · rw [e]; exact t0
        · exact i2 y hy
      · by_cases c : g 125 p.toNat = -1
        · rw [i5 c]
          omega
        · have := i4 c
          have := (ln (by omega)).2.2.1
          omega
theorem tt_of (hG : cg_G f it g Y kw h) (hO : ∀ p, 0 ≤ p → p < wk_u Y → g 119 p.toNat = 10 → 0 ≤ g 126 (g 129 (g 120 p.toNat).toNat).toNat → p < g 126 (g 129 (g 120 p.toNat).toNat).toNat) (hQ : tc_Q h h (wk_u Y)) : tt_G (fun p => mi_a h 92 p.toNat) g Y := by
  have u60 := hG.1.1
  have key : ∀ (k : Nat) (p : Int), wk_u Y - p ≤ k → 0 ≤ p → p < wk_u Y → (0 ≤ mi_a h 92 p.toNat ∧ mi_a h 92 p.toNat ≤ min (wk_e Y p) (wk_u Y) - p) ∧ ((g 122 p.toNat ≠ 0 → mi_a h 92 p.toNat = 1) ∧ (g 122 p.toNat = 0 → ((g 119 p.toNat = 1 ∨ g 119 p.toNat = 2 ∨ g 119 p.toNat = 9) → mi_a h 92 p.toNat = 1) ∧ (g 119 p.toNat = 10 → mi_a h 92 p.toNat = if 1 < g 130 (g 120 p.toNat).toNat then 1 else itt (fun p => mi_a h 92 p.toNat) (wk_it g 61 (g 126 (g 129 (g 120 p.toNat).toNat).toNat))) ∧ (g 119 p.toNat ≠ 1 → g 119 p.toNat ≠ 2 → g 119 p.toNat ≠ 9 → g 119 p.toNat ≠ 10 → mi_a h 92 p.toNat = 0))) := by
    intro k
    induction k with
    | zero => intro p hk p0 p1; omega
    | succ k ih =>
      intro p hk p0 p1
      obtain ⟨e68, -, e10, e72, e122, -⟩ := hG.2.2.1 p p0 p1
      obtain ⟨⟨l1, -⟩, -, -, -, l10, -⟩ := hG.1.2.2.1 p p0 p1
      have hp := hQ p p0 p1
      unfold tvc at hp
      by_cases c0 : g 122 p.toNat = 0
      · rw [if_pos c0] at e72
        rw [if_neg (show ¬ mi_a h 72 p.toNat ≠ 0 from fun z => z e72), e68] at hp
        by_cases c1 : g 119 p.toNat = 1 ∨ g 119 p.toNat = 2 ∨ g 119 p.toNat = 9
        · rw [if_pos c1] at hp
          exact ⟨by omega, fun q => absurd c0 q, fun _ => ⟨fun _ => hp, fun q => by omega, fun q1 q2 q3 => by omega⟩⟩
        · rw [if_neg c1] at hp
          by_cases c10 : g 119 p.toNat = 10
          · rw [if_pos c10, e10 c10] at hp
            obtain ⟨x1, x2, x3, x4⟩ := l10 c10
            obtain ⟨-, y2, y3, -, y5⟩ := hG.2.1 (g 120 p.toNat) x1 x2
            obtain ⟨-, -, d3, -, -, d5⟩ := hG.1.2.2.2 (g 120 p.toNat) x1 x2
            rw [y3] at hp
            by_cases cf : 1 < g 130 (g 120 p.toNat).toNat
            · rw [if_pos cf] at hp
              exact ⟨by omega, fun q => absurd c0 q, fun _ => ⟨fun q => absurd q c1, fun _ => by rw [if_pos cf]; exact hp, fun _ _ _ q => absurd c10 q⟩⟩
            · rw [if_neg cf, y2] at hp
              have y5 := y5 0 (by omega)
              have d5 := d5 0 (by omega)
              have ez : wk_alt g 0 (g 129 (g 120 p.toNat).toNat) = g 129 (g 120 p.toNat).toNat := rfl
              rw [ez] at y5 d5
              obtain ⟨-, z2, -, -, -, z6, z7⟩ := y5
              rw [z2] at hp
              have d6 := d5.2.2
              -- all that stands in it is behind it
              have hO' := hO p p0 p1 c10
              generalize g 126 (g 129 (g 120 p.toNat).toNat).toNat = fi at hp d6 z6 z7 hO' ⊢
              have hin : fi = -1 ∨ (p < fi ∧ fi < wk_u Y ∧ it fi ∧ wk_c Y fi = g 120 p.toNat ∧ wk_u Y - fi ≤ ((wk_u Y).toNat : Nat) ∧ wk_u Y - fi ≤ ((60 : Nat) : Int) ∧ wk_u Y - fi ≤ ((61 : Nat) : Int)) := by
                by_cases c : 0 ≤ fi
                · have := d6.resolve_left (by omega)
                  have := hO' c
                  exact Or.inr ⟨by omega, by omega, z7 c, by omega, by omega, by omega, by omega⟩
                · exact Or.inl (by omega)
              obtain ⟨i1, i2, i3, i4⟩ := tt_line (t := mi_a h 92) hG (u0 := p) (F := g 120 p.toNat) (fun v v0 v1 v2 => (ih v (by omega) v2 v1).1) (by omega) (wk_u Y).toNat fi 60 61 hin
              have hz : fi = -1 → lsi (mi_a h 92) (cv_row h 60 fi) = 0 := fun q => by
                rw [q]
                rfl
              have hb : lsi (mi_a h 92) (cv_row h 60 fi) ≤ min (wk_e Y p) (wk_u Y) - p := by
                rcases hin with q | q
                · rw [hz q]
                  omega
                · have := i4 (by omega)
                  obtain ⟨⟨-, -, b3, -⟩, -⟩ := hG.1.2.2.1 fi (by omega) q.2.1
                  rw [q.2.2.2.1] at b3
                  omega
              rw [lsw_lsi _ 0 i2 (by decide) (by omega), Int.zero_add] at hp
              exact ⟨by omega, fun q => absurd c0 q, fun _ => ⟨fun q => absurd q c1, fun _ => by rw [if_neg cf, ← i1]; exact hp, fun _ _ _ q => absurd c10 q⟩⟩
          · rw [if_neg c10] at hp
            exact ⟨by omega, fun q => absurd c0 q, fun _ => ⟨fun q => absurd q c1, fun q => absurd q c10, fun _ _ _ _ => hp⟩⟩
      · rw [if_neg c0] at e72
        rw [if_pos (show mi_a h 72 p.toNat ≠ 0 by omega)] at hp
        exact ⟨by omega, fun _ => hp, fun q => absurd q c0⟩
  intro p p0 p1
  exact (key (wk_u Y - p).toNat p (by omega) p0 p1).2
end TTO
/-! the sets, as the class's parsing walk wants them -/
set_option maxRecDepth 4000 in
theorem shn_k : ∀ n : Fin 64, shn (n.val : Int) = n.val := by decide
set_option maxRecDepth 4000 in
theorem tb_2 : ∀ n : Fin 64, tb (Int64.ofNat 2) n.val = decide ((n.val : Int) = 1) := by decide
set_option maxRecDepth 4000 in
theorem tb_4 : ∀ n : Fin 64, tb (Int64.ofNat 4) n.val = decide ((n.val : Int) = 2) := by decide
set_option maxRecDepth 20000 in
theorem tb_s : ∀ v : Fin 20, ∀ n : Fin 64, tb (shl1 (3 + (v.val : Int))) n.val = decide ((n.val : Int) = 3 + (v.val : Int)) := by decide +kernel
theorem bit_k {x : Int64} {j : Int} (j0 : 0 ≤ j) (hx : ∀ n : Fin 64, tb x n.val = decide ((n.val : Int) = j)) {k : Int} (k1 : k < 64) : px_bit x k = true ↔ k = j := by
  rw [px_bit_t]
  constructor
  · rintro ⟨k0, hk⟩
    have e := shn_k ⟨k.toNat, by omega⟩
    dsimp only at e
    rw [Int.toNat_of_nonneg k0] at e
    rw [e] at hk
    have := hx ⟨k.toNat, by omega⟩
    dsimp only at this
    rw [this, decide_eq_true_eq] at hk
    omega
  · intro e1
    subst e1
    refine ⟨j0, ?_⟩
    have e := shn_k ⟨k.toNat, by omega⟩
    dsimp only at e
    rw [Int.toNat_of_nonneg j0] at e
    rw [e]
    have := hx ⟨k.toNat, by omega⟩
    dsimp only at this
    rw [this, decide_eq_true_eq]
    omega
def cs_N (E : pm_E) (g : wk_g) (Y : wk_Y) (h : sm_H) : Prop := (∀ u, 0 ≤ u → u < wk_u Y → ∀ k, pq_bit (mx_b h 90 u.toNat) k = E.2.2.1 u k) ∧ (∀ F, 0 ≤ F → F < wk_f Y → ∀ j : Nat, (j : Int) < g 130 F.toNat → ∀ k, pq_bit (mx_b h 88 (wk_alt g j (g 129 F.toNat)).toNat) k = E.2.2.2 F (wk_alt g j (g 129 F.toNat)) k) ∧ ∀ u, 0 ≤ u → u < wk_u Y → (g 119 u.toNat = 1 → (∀ k, k < 64 → (E.2.2.1 u k = true ↔ k = 1)) ∧ mi_a h 69 u.toNat = g 120 u.toNat ∧ 0 ≤ g 120 u.toNat ∧ g 120 u.toNat ≤ 9) ∧ (g 119 u.toNat = 2 → ∀ k, k < 64 → (E.2.2.1 u k = true ↔ k = 2)) ∧ (g 119 u.toNat = 8 → 0 ≤ g 120 u.toNat ∧ ∀ k, k < 64 → (E.2.2.1 u k = true ↔ k = 3 + g 120 u.toNat)) ∧ (g 119 u.toNat ≠ 1 → g 119 u.toNat ≠ 2 → g 119 u.toNat ≠ 8 → g 119 u.toNat ≠ 9 → g 119 u.toNat ≠ 10 → mx_b h 90 u.toNat = Int64.ofNat 0)
section CSO
variable {f : Int → Int} {ow : Nat → Nat} {g : wk_g} {Y : wk_Y} {h : sm_H} {E : pm_E} {b : Nat → Int}
theorem cs_of (hT : TW f ow g Y h) (hs : ss_R g h) (hN : PN g) (hE : E.2.2 = (px_E h).2.2) : cs_N E (mi_a h) Y h := by
  obtain ⟨hS, hq, hC, hP, hI, hV, hW, hZ, hL, hA⟩ := id hT
  obtain ⟨s1, s2, X, Z, s3, s4, s5, s6⟩ := hs
  have eu : wk_u Y = g 0 0 := hL.2.1.trans hq.1.1.symm
  have ef : wk_f Y = g 0 2 := hL.2.2.1.trans hq.1.2.2.1.symm
  have e119 : mi_a h 119 = g 119 := rk_g2 hq (by decide)
  have e120 : mi_a h 120 = g 120 := rk_g2 hq (by decide)
  have hE1 : ∀ u k, E.2.2.1 u k = px_bit (mx_b h 134 u.toNat) k := fun u k => by rw [hE]; rfl
  have hE2 : ∀ F a k, E.2.2.2 F a k = px_bit (px_dir (mi_a h 132 a.toNat) (mx_b h 135 a.toNat) (mx_b h 138 F.toNat)) k := fun F a k => by rw [hE]; rfl
  have lf : ∀ u, 0 ≤ u → u < wk_u Y → mi_a h 119 u.toNat ≠ 9 → mi_a h 119 u.toNat ≠ 10 → mx_b h 134 u.toNat = pb_s (mi_a h 119 u.toNat) (mi_a h 120 u.toNat) := fun u u0 u1 n9 n10 => by
    rw [(s4 u u0 (by omega)).2]
    have e1 : (rv_p (mi_a h) u).1 = rv_t (mi_a h) u := rfl
    have e5 : (rv_p (mi_a h) u).2.2.2.2 = pb_s (mi_a h 119 u.toNat) (mi_a h 120 u.toNat) := rfl
    have et : rv_t (mi_a h) u = -1 := by
      unfold rv_t
      rw [if_neg n10, if_neg n9]
    unfold sp_s
    rw [e1, e5, et, if_neg (show ¬ (0 : Int) ≤ -1 by decide)]
  refine ⟨fun u u0 u1 k => ?_, fun F F0 F1 j hj k => ?_, fun u u0 u1 => ?_⟩
  · rw [pq_px, s1 u.toNat (by omega), hE1]
  · rw [pq_px, hE2, pxd_jd]
    refine congrArg (fun x => px_bit x k) (s2 F.toNat (by omega) _ ?_)
    unfold ra_L
    exact (ra_mem _ _).mpr ⟨j, by omega, rfl⟩
  · have hun : ((u.toNat : Nat) : Int) < g 0 0 := by omega
    obtain ⟨t1, t2, t3, t4⟩ := hC.2.2.2.1 u.toNat hun
    obtain ⟨n1, n8⟩ := hN.2.2.1 u.toNat hun
    have v8 := (hV.2.2 u.toNat hun).2.2.2
    refine ⟨fun c1 => ⟨fun k k1 => ?_, ?_, ?_⟩, fun c2 k k1 => ?_, fun c8 => ⟨?_, fun k k1 => ?_⟩, fun c1 c2 c8 c9 c10 => ?_⟩
    · rw [hE1, lf u u0 u1 (by omega) (by omega)]
      unfold pb_s
      rw [if_pos c1]
      exact bit_k (by decide) tb_2 k1
    · rw [t2, e120, if_neg (by rw [← e119]; omega), if_neg (by rw [← e119]; omega)]
    · rw [e120]
      exact n1 (by rw [← e119]; exact c1)
    · rw [hE1, lf u u0 u1 (by omega) (by omega)]
      unfold pb_s
      rw [if_neg (by omega), if_pos c2]
      exact bit_k (by decide) tb_4 k1
    · rw [e120]
      exact (v8 (by rw [← e119]; exact c8)).1
    · obtain ⟨v0, v1⟩ := v8 (by rw [← e119]; exact c8)
      rw [← e120] at v0 v1
      rw [hE1, lf u u0 u1 (by omega) (by omega)]
      unfold pb_s
      rw [if_neg (by omega), if_neg (by omega), if_pos c8]
      refine bit_k (by omega) (fun n => ?_) k1
      have := tb_s ⟨(mi_a h 120 u.toNat).toNat, by omega⟩ n
      dsimp only at this
      rw [Int.toNat_of_nonneg v0] at this
      exact this
    · rw [s1 u.toNat hun, lf u u0 u1 c9 c10]
      unfold pb_s
      rw [if_neg c1, if_neg c2, if_neg c8]
/-- numbers, literals, tops, as the class's printing walk wants them -/
theorem vpp_of {it : Int → Prop} {kw : Int → Bool} (hT : TW f ow g Y h) (hl : TLW g h) (hN : PN g) (hG : cg_G f it (mi_a h) Y kw h) (hb : bt_g b g) (hQ : tc_Q h h (g 0 0)) : vpp_G (tq_L h) (mi_a h) Y h := by
  obtain ⟨hS, hq, hC, hP, hI, hV, hW, hZ, hL, hA⟩ := id hT
  have eu : wk_u Y = g 0 0 := hL.2.1.trans hq.1.1.symm
  have e119 : mi_a h 119 = g 119 := rk_g2 hq (by decide)
  have e120 : mi_a h 120 = g 120 := rk_g2 hq (by decide)
  have e126 : mi_a h 126 = g 126 := rk_g2 hq (by decide)
  have e129 : mi_a h 129 = g 129 := rk_g2 hq (by decide)
  refine ⟨fun u u0 u1 => ?_, tt_of hG (fun p p0 p1 c10 c0 => ?_) (by rw [eu]; exact hQ)⟩
  · have hun : ((u.toNat : Nat) : Int) < g 0 0 := by omega
    obtain ⟨t1, t2, t3, t4⟩ := hC.2.2.2.1 u.toNat hun
    obtain ⟨n1, n8⟩ := hN.2.2.1 u.toNat hun
    have v8 := (hV.2.2 u.toNat hun).2.2.2
    refine ⟨fun c1 => ⟨?_, ?_⟩, fun c8 => ?_⟩
    · rw [t2, e120, if_neg (by rw [← e119]; omega), if_neg (by rw [← e119]; omega)]
    · rw [e120]
      exact n1 (by rw [← e119]; exact c1)
    · have c8' : g 119 u.toNat = 8 := by rw [← e119]; exact c8
      obtain ⟨q0, q1⟩ := n8 c8'
      have eL : tq_L h (g 120 u.toNat).toNat = g 117 (g 120 u.toNat).toNat := (hq.2.2 _).symm
      rw [e120, eL]
      refine ⟨?_, v8 c8', hl.2.2 _ (by omega), hN.2.2.2 _ (by omega)⟩
      rw [t2, if_neg (by omega), if_neg (by omega)]
  · rw [e119] at c10
    rw [e120, e126, e129] at c0 ⊢
    have hun : ((p.toNat : Nat) : Int) < g 0 0 := by omega
    have hb1 := (hb.1 p.toNat hun c10).1
    obtain ⟨-, -, d3, -, -, d5⟩ := hL.1.2.2.2 (g 120 p.toNat) hb1.1 (by rw [hL.2.2.1, ← hq.1.2.2.1]; exact hb1.2)
    have a0 := (d5 0 (by omega)).1
    have a0 : 0 ≤ mi_a h 129 (g 120 p.toNat).toNat := a0
    rw [e129] at a0
    have := bt_first hb hun c10 a0 c0
    omega
end CSO
/-! after both have compiled: all that the walks want, and what is kept of it between calls -/
def lt_ok (h : sm_H) : Prop := mi_f h 7698 = mi_f h 13962 ∧ mi_f h 13962 ≤ 20 ∧ ∀ l : Nat, (l : Int) < mi_f h 13962 → mi_a h 75 l = tq_L h l ∧ lit_ok (tq_L h l) ∧ tq_L h l < 33554432 ∧ 0 ≤ (mx_b h 118 l).toInt ∧ 0 ≤ mi_a h 117 l
def r9_k (h : sm_H) (f : Int → Int) (it : Int → Prop) (Y : wk_Y) : Prop := (cg_G f it (mi_a h) Y (gx_k h) h ∧ wk_Lrule Y (mi_a h 114 0) ∧ f (mi_a h 114 0) = 0) ∧ vpp_G (tq_L h) (mi_a h) Y h ∧ (∀ E : pm_E, E.2.2 = (px_E h).2.2 → cs_N E (mi_a h) Y h) ∧ (∃ pf pa, ∀ E : pm_E, E.2.2 = (px_E h).2.2 → pm_Hs (mi_a h) Y E pf pa) ∧ pm_x Y ∧ (∀ u, 0 ≤ u → u < wk_u Y → mi_a h 119 u.toNat = 8 → mi_a h 120 u.toNat < mi_f h 13962) ∧ lt_ok h
def r9_kc : List Nat := [63, 64, 65, 66, 68, 69, 71, 72, 74, 75, 87, 88, 90, 92, 114, 115, 117, 118, 119, 120, 122, 124, 125, 126, 128, 129, 130, 132, 134, 135, 138, 143]
def r9_fc : List Nat := [7698, 13962]
section R9K
variable {f : Int → Int} {it : Int → Prop} {Y : wk_Y} {h h' : sm_H}
theorem pm_Hs_e2 {g : wk_g} {E E' : pm_E} {pf pa : Int → Int → Bool} (e : E'.2.2 = E.2.2) (hH : pm_Hs g Y E pf pa) : pm_Hs g Y E' pf pa := by
  unfold pm_Hs at hH ⊢
  rw [e]
  exact hH
theorem pm_Hs_g {g g' : wk_g} {E : pm_E} {pf pa : Int → Int → Bool} (hg : wk_gc g g') (hH : pm_Hs g Y E pf pa) : pm_Hs g' Y E pf pa := by
  unfold pm_Hs at hH ⊢
  simp only [hg 119 (by decide), hg 120 (by decide), hg 126 (by decide), hg 129 (by decide), hg 130 (by decide), wk_rf_g hg, wk_alt_g hg, wk_it_g hg]
  exact hH
theorem tt_G_g {g g' : wk_g} {t : Int → Int} (hg : wk_gc g g') (hH : tt_G t g Y) : tt_G t g' Y := by
  unfold tt_G at hH ⊢
  simp only [hg 119 (by decide), hg 120 (by decide), hg 122 (by decide), hg 126 (by decide), hg 129 (by decide), hg 130 (by decide), wk_it_g hg]
  exact hH
theorem r9_k_eq (ha : ∀ k, k ∈ r9_kc → mi_a h' k = mi_a h k) (hb : ∀ k, k ∈ r9_kc → mx_b h' k = mx_b h k) (hf : ∀ c, c ∈ r9_fc → mi_f h' c = mi_f h c) (hk : r9_k h f it Y) : r9_k h' f it Y := by
  have hsub : ∀ k, k ∈ wk_gk → k ∈ r9_kc := by decide
  have hg : wk_gc (mi_a h) (mi_a h') := fun k hk i => by rw [ha k (hsub k hk)]
  have hkw : gx_k h' = gx_k h := by
    unfold gx_k
    rw [hb 118 (by decide), hf 13962 (by decide)]
  have hL : tq_L h' = tq_L h := funext fun k => by
    unfold tq_L
    rw [hb 118 (by decide), ha 117 (by decide)]
  have hE : (px_E h').2.2 = (px_E h).2.2 := by
    unfold px_E
    dsimp only
    rw [hb 134 (by decide), ha 132 (by decide), hb 135 (by decide), hb 138 (by decide)]
  obtain ⟨⟨k1, k2, k3⟩, k4, k5, ⟨pf, pa, k6⟩, k7, k8, k9⟩ := hk
  refine ⟨⟨cg_G_eq (fun k hk => ha k ((by decide : ∀ k, k ∈ r8_kc → k ∈ r9_kc) k hk)) (hf 7698 (by decide)) hkw k1, by rw [ha 114 (by decide)]; exact k2, by rw [ha 114 (by decide)]; exact k3⟩, ⟨fun p p0 p1 => ?_, ?_⟩, fun E e => ?_, ⟨pf, pa, fun E e => pm_Hs_g hg (k6 E (e.trans hE))⟩, k7, fun u u0 u1 => ?_, ?_⟩
  · rw [hL, ha 119 (by decide), ha 120 (by decide), ha 69 (by decide), ha 75 (by decide)]
    exact k4.1 p p0 p1
  · rw [ha 92 (by decide)]
    exact tt_G_g hg k4.2
  · have := k5 E (e.trans hE)
    unfold cs_N at this ⊢
    simp only [hb 90 (by decide), hb 88 (by decide), ha 69 (by decide), ha 119 (by decide), ha 120 (by decide), ha 129 (by decide), ha 130 (by decide), wk_alt_g hg]
    exact this
  · rw [ha 119 (by decide), ha 120 (by decide), hf 13962 (by decide)]
    exact k8 u u0 u1
  · unfold lt_ok at k9 ⊢
    rw [hL, ha 75 (by decide), ha 117 (by decide), hb 118 (by decide), hf 7698 (by decide), hf 13962 (by decide)]
    exact k9
/-- how many rules, how many literals; whether the description is good -/
def r9_c (h : sm_H) : Prop := (mi_f h 6543 ≠ 0 ↔ mi_f h 13959 = 2) ∧ (mi_f h 13959 = 2 → ∃ f it Y, r9_k h f it Y) ∧ (0 ≤ mi_f h 13959 ∧ mi_f h 13959 ≤ 2) ∧ (mi_f h 6542 ≠ 0 ↔ mi_f h 13959 ≠ 0) ∧ (mi_f h 13959 ≠ 0 → mi_f h 7680 = mi_f h 13961 ∧ mi_f h 7698 = mi_f h 13962)
/-- both have compiled -/
theorem r9_both {n : Int} {c : Nat → Int} {g1 g2 : wk_g} {h1 h2 : sm_H} {y : Int} (hS1 : ab_Sh sx_sk h1) (hS2 : ab_Sh sx_sk h2) (hF : ab_Fr mr_W h1 h2) (hG1 : cm_G n c g1 h1) (hC1 : cm_5 n c g1 (some (.inl y)) h1) (hco : co_G n c g1 h2) (h0 : rz_0 g2) (hG2 : cm_G n c g2 h1) (hC2 : cm_5 n c g2 (some (.inl y)) h1) (hr : rz_B n c g2 y ∨ ∃ g, rz_D n c g2 g ∧ rz_U g ∧ co_R h1 h2 g y) : r9_c h2 := by
  have e43 : mi_f h2 6543 = mi_f h1 6543 := me_f (c := 6543) hF hS1 rfl rfl
  have e42 : mi_f h2 6542 = mi_f h1 6542 := me_f (c := 6542) hF hS1 rfl rfl
  obtain ⟨y1, ey1, -, a43, hC1⟩ := hC1
  have ey1 : y1 = y := by injection ey1 with q; injection q with q; exact q.symm
  subst ey1
  obtain ⟨y2, ey2, -, -, hC2⟩ := hC2
  have ey2 : y2 = y1 := by injection ey2 with q; injection q with q; exact q.symm
  subst ey2
  rcases hC1 with ⟨a1, a2⟩ | ⟨f, ow, g, hb, k1, k2, -⟩
  · rw [if_neg a2] at a43
    have m42 : mi_f h1 6542 = 0 := by
      rcases hG1 with ⟨q, -⟩ | ⟨-, -, f', ow', g', q1, q2, -⟩
      · exact q
      · exact (rz_xB q1 q2 a1).elim
    rcases hco with ⟨b1, -⟩ | ⟨-, -, g, Y, b2, b3, -⟩
    · exact ⟨⟨fun q => absurd (e43.trans a43) q, fun q => by omega⟩, fun q => by omega, by omega, ⟨fun q => absurd (e42.trans m42) q, fun q => absurd b1 q⟩, fun q => absurd b1 q⟩
    · exact (rz_xB b2 b3 a1).elim
  · have m42 : mi_f h1 6542 = 1 := by
      rcases hG1 with ⟨-, f', q⟩ | ⟨q, -⟩
      · exact (rz_xB k1 k2 q).elim
      · exact q
    obtain ⟨g', d1, d2⟩ : ∃ g, rz_D n c g2 g ∧ rz_U g := by
      rcases hG2 with ⟨q, -⟩ | ⟨-, -, f', ow', g', q1, q2, -⟩
      · omega
      · exact ⟨g', q1, q2⟩
    rcases hC2 with ⟨q, -⟩ | ⟨f, ow, g, hb, k1, k2, k3, k4, k5, k6, k7, k8, k9, ⟨o, k10⟩, k11, k12, k13, k14, k15, k16⟩
    · exact (rz_xB d1 d2 q).elim
    rcases hr with hr | ⟨g'', b1, b2, h3, h4, Y, s3, s4, F4, F34, q3, q4, l3, l4, hz, lz, F7, e59, lk, lr⟩
    · exact (rz_xB d1 d2 hr).elim
    have eg := rz_DD b1 k1
    subst eg
    obtain ⟨bb, hbt⟩ := BT_D h0 b1
    obtain ⟨c1, c2, c3, c4, c5⟩ := CA_fr k11 hS1 F4 (by decide)
    have hT : TW f ow g'' Y h4 := ⟨s4, q4, c3, k3, k4, k5, k6, k2, l4, k7⟩
    have hh := high_same hT k8 c1 c2 s3 F34 q3 l3 hz
    have hl4 := TLW_fr k12 hS1 F4 (by decide)
    have hG := cg_of hT hl4 k13 lk hh
    have hs := sets_same hT k8 k10 c1 c2 s3 F34 q3 l3 hz
    have hQ4 : tc_Q h4 h4 (g'' 0 0) := tc_Q_fr k16 hS1 F4 rfl rfl
    have f0 : f (mi_a h4 114 0) = 0 := by
      rw [rk_g2 q4 (r := 114) (by decide)]
      exact (k4.1 0 (by omega)).2
    have e62 : mi_f h4 13962 = g'' 0 4 := q4.1.2.2.2.2.1.symm
    have e61 : mi_f h4 13961 = g'' 0 3 := q4.1.2.2.2.1.symm
    have eu : wk_u Y = g'' 0 0 := l4.2.1.trans q4.1.1.symm
    have hle : 0 ≤ mi_f h2 13959 ∧ mi_f h2 13959 ≤ 2 := by
      rw [e59]
      split
      · omega
      · omega
    have n59 : mi_f h2 13959 ≠ 0 := by
      rw [e59]
      split
      · decide
      · decide
    have a7 : ∀ k, k ∈ r9_kc → mi_a h2 k = mi_a h4 k := fun k hk => funext fun i => by
      have w1 : ∀ k, k ∈ r9_kc → (mx_isA sx_sk k || mx_isB sx_sk k) = true := by decide +kernel
      have w2 : ∀ k, k ∈ r9_kc → ab_in [(13959, 13960)] (k * 128) = false := by decide
      exact me_a F7 s4 (w1 k hk) (w2 k hk)
    have b7 : ∀ k, k ∈ r9_kc → mx_b h2 k = mx_b h4 k := fun k hk => funext fun i => by
      have w1 : ∀ k, k ∈ r9_kc → (mx_isA sx_sk k || mx_isB sx_sk k) = true := by decide +kernel
      have w2 : ∀ k, k ∈ r9_kc → ab_in [(13959, 13960)] (k * 128) = false := by decide
      exact me_b F7 s4 (w1 k hk) (w2 k hk)
    have f98 : mi_f h2 7698 = mi_f h4 7698 := me_f (c := 7698) F7 s4 rfl rfl
    have f62 : mi_f h2 13962 = mi_f h4 13962 := me_f (c := 13962) F7 s4 rfl rfl
    have f61 : mi_f h2 13961 = mi_f h4 13961 := me_f (c := 13961) F7 s4 rfl rfl
    have f80 : mi_f h2 7680 = mi_f h4 7680 := me_f (c := 7680) F7 s4 rfl rfl
    have lt4 : lt_ok h4 := by
      refine ⟨by rw [hl4.2.1, e62], by rw [e62]; exact k3.1.2.2.2.2.2, fun l hl => ?_⟩
      rw [e62] at hl
      have el : tq_L h4 l = g'' 117 l := (q4.2.2 l).symm
      obtain ⟨z1, -, z3⟩ := lk l (by rw [e62]; exact hl)
      rw [el]
      exact ⟨hl4.2.2 l hl, k14.2.2.2 l hl, k13.2 l hl, z1, z3⟩
    refine ⟨?_, fun q2 => ?_, hle, ⟨fun _ => n59, fun _ => by rw [e42, m42]; decide⟩, fun _ => ⟨by rw [f80, f61, e61]; exact c4.1.2, by rw [f98, f62]; exact lt4.1⟩⟩
    · rw [e43, a43, e59]
      by_cases q : y2 = 0
      · rw [if_pos q, if_pos q]
        exact ⟨fun _ => rfl, fun _ => by decide⟩
      · rw [if_neg q, if_neg q]
        exact ⟨fun q => absurd rfl q, fun q => absurd q (by decide)⟩
    · have y0 : y2 = 0 := by
        by_cases q : y2 = 0
        · exact q
        · rw [e59, if_neg q] at q2
          exact absurd q2 (by decide)
      subst y0
      have pl := j_plo q4 k6 l4 k9
      have no : ∀ x, ¬ j_8 h4 (mi_f h4 13965) x := by
        intro x hx
        rcases lz with ⟨-, z⟩ | ⟨z, -⟩
        · exact z x (Or.inr hx)
        · have := j_pos pl (fun x hx => by
            obtain ⟨F, hF, k⟩ := hx
            obtain ⟨a, ha, e⟩ := k8l_in _ _ k
            obtain ⟨jj, hjj, rfl⟩ := (ra_mem _ _).mp ha
            have := (pl.2.2 F hF jj (by omega)).1
            omega) 0 z
          exact absurd this (by decide)
      obtain ⟨pf, pa, hH⟩ := hs_of (B := fun _ => true) (E1 := fun _ => 0) (E2 := fun _ => 0) hT hs no
      rw [px_B_t] at hH
      refine ⟨f, _, Y, r9_k_eq (h := h4) a7 b7 (fun c hc => ?_) ⟨⟨hG, lr, f0⟩, vpp_of hT hl4 k14 hG hbt hQ4, fun E e => cs_of hT hs k14 e, ⟨pf, pa, fun E e => pm_Hs_e2 (E := ((fun _ => 0), (fun _ => 0), (px_E h4).2.2)) e hH⟩, pmx_of hT k15, fun u u0 u1 c8 => ?_, lt4⟩⟩
      · simp only [r9_fc, List.mem_cons, List.not_mem_nil, or_false] at hc
        rcases hc with rfl | rfl
        · exact f98
        · exact f62
      · rw [rk_g2 q4 (r := 119) (by decide)] at c8
        rw [rk_g2 q4 (r := 120) (by decide), e62]
        exact ((k14.2.2.1 u.toNat (by omega)).2 c8).2
end R9K
/-! what parse puts into nodes: no many more often than there are tokens; numbers, names -/
def nv_ok (x : Int × Int × Int) : Prop := (x.1 % 10 = 2 → 0 ≤ x.2.1 ∧ x.2.1 ≤ 9999) ∧ (x.1 % 10 = 3 → 0 < x.2.1 ∧ lgd 6 x.2.1)
def mv_Q (X : Int → Prop) (s : gm_S) : Prop := ∀ x ∈ gm_T s, nv_ok x ∧ (x.1 % 10 = 5 → ¬ X (x.1 / 10) → x.2.1 ≤ gm_F s)
/-- what is new -/
def mv_N (s t : gm_S) : Prop := gm_len s ≤ gm_len t ∧ ∀ x ∈ gm_T t, x ∈ gm_T s ∨ (gm_len s ≤ x.1 / 10 ∧ nv_ok x ∧ (x.1 % 10 = 5 → x.2.1 = 0))
def mv_g (Y : wk_Y) (B : List wk_E) : Prop := ∀ e ∈ B, ((e.1 = 0 ∨ e.1 = 5) → 0 ≤ e.2.1 ∧ e.2.1 < wk_u Y) ∧ (e.1 = 1 → 0 ≤ e.2.1 ∧ e.2.1 < wk_f Y)
section MVS
variable {g : wk_g} {E : pm_E} {Y : wk_Y} {N l : Int} {s t : gm_S} {r : List wk_E} {c : gm_C}
theorem mv_N_refl (h : gm_T t = gm_T s) : mv_N s t := ⟨by unfold gm_len; rw [h]; exact Int.le_refl _, fun x hx => Or.inl (by rw [← h]; exact hx)⟩
theorem mv_c {k v : Int} (hk : 0 ≤ k ∧ k < 10) (h : gm_c k v s = some t) (hv : (k = 2 → 0 ≤ v ∧ v ≤ 9999) ∧ (k = 3 → 0 < v ∧ lgd 6 v) ∧ (k = 5 → v = 0)) : mv_N s t := by
  obtain ⟨-, -, t3, -, -⟩ := gm_c_t h
  refine ⟨by unfold gm_len; rw [(gm_c_len h).2]; omega, fun x hx => ?_⟩
  rw [t3] at hx
  rcases List.mem_append.mp hx with hx | hx
  · exact Or.inl hx
  · have e := List.mem_singleton.mp hx
    have m : (k + 10 * ((gm_T s).length : Int)) % 10 = k := by omega
    refine Or.inr ?_
    rw [e]
    refine ⟨by show ((gm_T s).length : Int) ≤ (k + 10 * ((gm_T s).length : Int)) / 10; omega, ⟨fun q => hv.1 (by dsimp only at q; omega), fun q => hv.2.1 (by dsimp only at q; omega)⟩, fun q => hv.2.2 (by dsimp only at q; omega)⟩
theorem mv_N_T {t' : gm_S} (h : mv_N s t) (e : gm_T t' = gm_T t) : mv_N s t' := ⟨by have := h.1; unfold gm_len at this ⊢; rw [e]; exact this, fun x hx => h.2 x (by rw [← e]; exact hx)⟩
/-- a name's token -/
def mv_E (E : pm_E) (N : Int) : Prop := E.1 N = 0 ∧ ∀ j, 0 ≤ j → j ≤ N → E.1 j = 2 → 0 < E.2.1 j ∧ lgd 6 (E.2.1 j)
theorem mv_lf {o w : Int} (hE : mv_E E N) (f0 : 0 ≤ gm_F s) (f1 : gm_F s ≤ N) (h : pm_lf E o w s = some t) : mv_N s t := by
  unfold pm_lf at h
  by_cases c1 : o = 1
  · rw [if_pos c1] at h
    split at h
    · obtain ⟨t', k1, k2⟩ := Option.map_eq_some_iff.mp h
      subst k2
      exact mv_N_T (mv_c (by decide) k1 ⟨fun _ => by omega, fun q => absurd q (by decide), fun q => absurd q (by decide)⟩) pm_nx_e.2.1
    · cases h
  · rw [if_neg c1] at h
    by_cases c2 : o = 2
    · rw [if_pos c2] at h
      split at h
      · next q =>
        obtain ⟨t', k1, k2⟩ := Option.map_eq_some_iff.mp h
        subst k2
        exact mv_N_T (mv_c (by decide) k1 ⟨fun q => absurd q (by decide), fun _ => hE.2 _ f0 f1 q, fun q => absurd q (by decide)⟩) pm_nx_e.2.1
      · cases h
    · rw [if_neg c2] at h
      split at h
      · split at h
        · injection h with h
          subst h
          exact mv_N_refl pm_nx_e.2.1
        · cases h
      · injection h with h
        subst h
        exact mv_N_refl rfl
theorem mv_sg (hL : wk_L g Y) {u : Int} (hE : mv_E E N) (f0 : 0 ≤ gm_F s) (f1 : gm_F s ≤ N) (u0 : 0 ≤ u) (u1 : u < wk_u Y) (h : pm_sg l g E u r s = some c) : mv_N s c.2 ∧ ∃ A, c.1 = A ++ r ∧ mv_g Y A ∧ ∀ z ∈ A, z.1 ≠ 5 := by
  obtain ⟨-, -, -, l9, l10, -⟩ := hL.2.2.1 u u0 u1
  unfold pm_sg at h
  by_cases c9 : g 119 u.toNat = 9
  · rw [if_pos c9] at h
    unfold pm_en at h
    split at h
    · cases h
    · obtain ⟨t', k1, k2⟩ := Option.map_eq_some_iff.mp h
      subst k2
      obtain ⟨-, -, -, -, r1, r2, -⟩ := l9 c9
      refine ⟨mv_N_T (mv_c (by decide) k1 ⟨fun q => absurd q (by decide), fun q => absurd q (by decide), fun q => absurd q (by decide)⟩) gm_d_T, [(1, g 114 (g 115 (g 120 u.toNat).toNat).toNat, 0), (2, 1, 0)], rfl, fun e he => ?_, nP2 (by decide) (by decide)⟩
      rcases List.mem_cons.mp he with e1 | he
      · rw [e1]
        exact ⟨fun q => by rcases q with q | q <;> exact absurd q (by dsimp only; decide), fun _ => ⟨r1, r2⟩⟩
      · rw [List.mem_singleton.mp he]
        exact ⟨fun q => by rcases q with q | q <;> exact absurd q (by dsimp only; decide), fun q => absurd q (by dsimp only; decide)⟩
  · rw [if_neg c9] at h
    by_cases c10 : g 119 u.toNat = 10
    · rw [if_pos c10] at h
      injection h with h
      subst h
      obtain ⟨x1, x2, -⟩ := l10 c10
      refine ⟨mv_N_refl rfl, [(1, g 120 u.toNat, 0)], rfl, fun e he => ?_, nP1 (by decide)⟩
      rw [List.mem_singleton.mp he]
      exact ⟨fun q => by rcases q with q | q <;> exact absurd q (by dsimp only; decide), fun _ => ⟨x1, x2⟩⟩
    · rw [if_neg c10] at h
      obtain ⟨t', k1, k2⟩ := Option.map_eq_some_iff.mp h
      subst k2
      exact ⟨mv_lf hE f0 f1 k1, [], rfl, fun e he => absurd he List.not_mem_nil, fun z hz => absurd hz List.not_mem_nil⟩
theorem mv_it (hL : wk_L g Y) : ∀ (n : Nat) (u : Int), (u < 0 ∨ u < wk_u Y) → mv_g Y (wk_it g n u) ∧ ∀ z ∈ wk_it g n u, z.1 ≠ 5 := by
  intro n
  induction n with
  | zero => intro u _; exact ⟨fun e he => absurd he List.not_mem_nil, fun e he => absurd he List.not_mem_nil⟩
  | succ n ih =>
    intro u hu
    rw [wk_it]
    by_cases c : u < 0
    · rw [if_pos c]
      exact ⟨fun e he => absurd he List.not_mem_nil, fun e he => absurd he List.not_mem_nil⟩
    · rw [if_neg c]
      have u1 : u < wk_u Y := by omega
      obtain ⟨-, lm, ln, -⟩ := hL.2.2.1 u (by omega) u1
      obtain ⟨i1, i2⟩ := ih (g 125 u.toNat) (by
        by_cases q : 0 ≤ g 125 u.toNat
        · exact Or.inr (ln q).1
        · exact Or.inl (by omega))
      have un : ∀ (w o : Int), 0 ≤ w → w < wk_u Y → (((0, w, o) : wk_E).1 = 0 ∨ ((0, w, o) : wk_E).1 = 5 → 0 ≤ ((0, w, o) : wk_E).2.1 ∧ ((0, w, o) : wk_E).2.1 < wk_u Y) ∧ (((0, w, o) : wk_E).1 = 1 → 0 ≤ ((0, w, o) : wk_E).2.1 ∧ ((0, w, o) : wk_E).2.1 < wk_f Y) := fun w o w0 w1 => ⟨fun _ => ⟨w0, w1⟩, fun q => absurd q (by dsimp only; decide)⟩
      have ot : ∀ (k : Int), k = 3 ∨ k = 4 → (((k, 0, 0) : wk_E).1 = 0 ∨ ((k, 0, 0) : wk_E).1 = 5 → 0 ≤ ((k, 0, 0) : wk_E).2.1 ∧ ((k, 0, 0) : wk_E).2.1 < wk_u Y) ∧ (((k, 0, 0) : wk_E).1 = 1 → 0 ≤ ((k, 0, 0) : wk_E).2.1 ∧ ((k, 0, 0) : wk_E).2.1 < wk_f Y) := fun k hk => ⟨fun q => by dsimp only at q; omega, fun q => by dsimp only at q; omega⟩
      by_cases cm : 0 ≤ g 124 u.toNat
      · rw [if_pos cm]
        refine ⟨fun e he => ?_, fun z hz => ?_⟩
        · simp only [List.mem_cons] at he
          rcases he with rfl | rfl | rfl | rfl | he
          · exact un _ _ (by omega) u1
          · exact ot 3 (Or.inl rfl)
          · exact un _ _ cm (lm cm).1
          · exact ot 4 (Or.inr rfl)
          · exact i1 e he
        · simp only [List.mem_cons] at hz
          rcases hz with rfl | rfl | rfl | rfl | hz
          · exact show (0 : Int) ≠ 5 by decide
          · exact show (3 : Int) ≠ 5 by decide
          · exact show (0 : Int) ≠ 5 by decide
          · exact show (4 : Int) ≠ 5 by decide
          · exact i2 z hz
      · rw [if_neg cm]
        refine ⟨fun e he => ?_, fun z hz => ?_⟩
        · rcases List.mem_cons.mp he with rfl | he
          · exact un _ _ (by omega) u1
          · exact i1 e he
        · rcases List.mem_cons.mp hz with rfl | hz
          · exact show (0 : Int) ≠ 5 by decide
          · exact i2 z hz
theorem mv_g_app {A B : List wk_E} (h1 : mv_g Y A) (h2 : mv_g Y B) : mv_g Y (A ++ B) := fun e he => by
  rcases List.mem_append.mp he with he | he
  · exact h1 e he
  · exact h2 e he
theorem mv_g_2 {a b : Int} : mv_g Y [(2, a, b)] := fun e he => by
  rw [List.mem_singleton.mp he]
  exact ⟨fun q => by rcases q with q | q <;> exact absurd q (by dsimp only; decide), fun q => absurd q (by dsimp only; decide)⟩
/-- a turn that is not once more -/
theorem mv_st (hL : wk_L g Y) {e : wk_E} (hE : mv_E E N) (f0 : 0 ≤ gm_F s) (f1 : gm_F s ≤ N) (h5 : e.1 ≠ 5) (hg : mv_g Y (e :: r)) (h : pm_st g E l e r s = some c) : mv_N s c.2 ∧ mv_g Y c.1 ∧ ∀ z ∈ c.1, z.1 = 5 → z ∈ r ∨ z.2.2 = gm_len s := by
  have hr : mv_g Y r := fun z hz => hg z (List.mem_cons_of_mem _ hz)
  have he := hg e List.mem_cons_self
  unfold pm_st at h
  by_cases c0 : e.1 = 0
  · rw [if_pos c0] at h
    obtain ⟨u0, u1⟩ := he.1 (Or.inl c0)
    have oT : gm_T (gm_op e.2.2 s) = gm_T s := gm_op_t
    have oL : gm_len (gm_op e.2.2 s) = gm_len s := gm_op_e.2
    have oF : gm_F (gm_op e.2.2 s) = gm_F s := pm_F_op
    have lift : ∀ {t : gm_S}, mv_N (gm_op e.2.2 s) t → mv_N s t := fun {t} k => by
      unfold mv_N at k ⊢
      rw [oT, oL] at k
      exact k
    unfold pm_u at h
    by_cases c1 : g 122 e.2.1.toNat = 1
    · rw [if_pos c1] at h
      obtain ⟨t', k1, k2⟩ := Option.map_eq_some_iff.mp h
      subst k2
      refine ⟨lift (mv_N_T (mv_c (by decide) k1 ⟨fun q => absurd q (by decide), fun q => absurd q (by decide), fun _ => rfl⟩) gm_d_T), fun z hz => ?_, fun z hz z5 => ?_⟩
      · simp only [List.mem_cons] at hz
        rcases hz with rfl | rfl | hz
        · exact ⟨fun _ => ⟨u0, u1⟩, fun q => absurd q (by dsimp only; decide)⟩
        · exact mv_g_2 _ List.mem_cons_self
        · exact hr z hz
      · simp only [List.mem_cons] at hz
        rcases hz with rfl | rfl | hz
        · exact Or.inr oL
        · exact absurd z5 (by dsimp only; decide)
        · exact Or.inl hz
    · rw [if_neg c1] at h
      by_cases c2 : g 122 e.2.1.toNat = 2
      · rw [if_pos c2] at h
        obtain ⟨t', k1, k2⟩ := Option.bind_eq_some_iff.mp h
        have hN1 : mv_N s (gm_d t') := lift (mv_N_T (mv_c (by decide) k1 ⟨fun q => absurd q (by decide), fun q => absurd q (by decide), fun q => absurd q (by decide)⟩) gm_d_T)
        have l1 := (gm_c_len k1).2
        have lt : gm_len (gm_d t') = gm_len s + 1 := by
          unfold gm_len
          rw [gm_d_T, l1, oT]
          omega
        have eF : gm_F (gm_d t') = gm_F s := by
          rw [(gm_d_e (t := t')).2.1, (gm_c_t k1).2.1, oF]
        split at k2
        · obtain ⟨a1, A, a2, a3, a4⟩ := mv_sg hL hE (by omega) (by omega) u0 u1 k2
          refine ⟨⟨by have := a1.1; omega, fun x hx => ?_⟩, ?_, fun z hz z5 => ?_⟩
          · rcases a1.2 x hx with q | ⟨q1, q2, q3⟩
            · exact hN1.2 x q
            · exact Or.inr ⟨by omega, q2, q3⟩
          · rw [a2]
            exact mv_g_app a3 (fun z hz => by
              rcases List.mem_cons.mp hz with rfl | hz
              · exact mv_g_2 _ List.mem_cons_self
              · exact hr z hz)
          · rw [a2] at hz
            rcases List.mem_append.mp hz with hz | hz
            · exact absurd z5 (a4 z hz)
            · rcases List.mem_cons.mp hz with rfl | hz
              · exact absurd z5 (by dsimp only; decide)
              · exact Or.inl hz
        · injection k2 with k2
          subst k2
          refine ⟨hN1, fun z hz => ?_, fun z hz z5 => ?_⟩
          · rcases List.mem_cons.mp hz with rfl | hz
            · exact mv_g_2 _ List.mem_cons_self
            · exact hr z hz
          · rcases List.mem_cons.mp hz with rfl | hz
            · exact absurd z5 (by dsimp only; decide)
            · exact Or.inl hz
      · rw [if_neg c2] at h
        obtain ⟨a1, A, a2, a3, a4⟩ := mv_sg hL hE (by rw [oF]; exact f0) (by rw [oF]; exact f1) u0 u1 h
        refine ⟨lift a1, by rw [a2]; exact mv_g_app a3 hr, fun z hz z5 => ?_⟩
        rw [a2] at hz
        rcases List.mem_append.mp hz with hz | hz
        · exact absurd z5 (a4 z hz)
        · exact Or.inl hz
  · rw [if_neg c0] at h
    by_cases c1 : e.1 = 1
    · rw [if_pos c1] at h
      obtain ⟨F0, F1⟩ := he.2 c1
      obtain ⟨-, -, d3, -, -, d5⟩ := hL.2.2.2 _ F0 F1
      unfold pm_fo at h
      split at h
      · obtain ⟨n, n1, n2⟩ := Option.bind_eq_some_iff.mp h
        obtain ⟨t', k1, k2⟩ := Option.map_eq_some_iff.mp n2
        subst k2
        obtain ⟨j, j1, j2, -⟩ := pm_dr_e _ _ _ _ n1
        have jn : n.toNat = j := by omega
        obtain ⟨-, -, p8⟩ := d5 n.toNat (by omega)
        obtain ⟨i1, i2⟩ := mv_it hL 61 (g 126 (wk_alt g n.toNat (g 129 e.2.1.toNat)).toNat) (by omega)
        refine ⟨mv_N_T (mv_c (by decide) k1 ⟨fun q => absurd q (by decide), fun q => absurd q (by decide), fun q => absurd q (by decide)⟩) gm_d_T, mv_g_app i1 (fun z hz => ?_), fun z hz z5 => ?_⟩
        · rcases List.mem_cons.mp hz with rfl | hz
          · exact mv_g_2 _ List.mem_cons_self
          · exact hr z hz
        · rcases List.mem_append.mp hz with hz | hz
          · exact absurd z5 (i2 z hz)
          · rcases List.mem_cons.mp hz with rfl | hz
            · exact absurd z5 (by dsimp only; decide)
            · exact Or.inl hz
      · injection h with h
        subst h
        obtain ⟨-, -, p8⟩ := d5 0 (by omega)
        have p8 : g 126 (g 129 e.2.1.toNat).toNat < 0 ∨ (g 126 (g 129 e.2.1.toNat).toNat < wk_u Y ∧ wk_c Y (g 126 (g 129 e.2.1.toNat).toNat) = e.2.1) := p8
        obtain ⟨i1, i2⟩ := mv_it hL 61 (g 126 (g 129 e.2.1.toNat).toNat) (by omega)
        refine ⟨mv_N_refl rfl, mv_g_app i1 hr, fun z hz z5 => ?_⟩
        rcases List.mem_append.mp hz with hz | hz
        · exact absurd z5 (i2 z hz)
        · exact Or.inl hz
    · rw [if_neg c1, if_neg h5] at h
      by_cases c2 : e.1 = 2
      · rw [if_pos c2] at h
        injection h with h
        subst h
        exact ⟨mv_N_refl (gm_T_mk _ _ _ _ _), hr, fun z hz _ => Or.inl hz⟩
      · rw [if_neg c2] at h
        by_cases c3 : e.1 = 3
        · rw [if_pos c3] at h
          injection h with h
          subst h
          exact ⟨mv_N_refl gm_mid_T, hr, fun z hz _ => Or.inl hz⟩
        · rw [if_neg c3] at h
          injection h with h
          subst h
          refine ⟨?_, hr, fun z hz _ => Or.inl hz⟩
          show mv_N s (gm_tu s)
          unfold gm_tu
          cases hP : gm_P s with
          | nil => exact mv_N_refl rfl
          | cons p q =>
            dsimp only
            refine ⟨?_, fun x hx => Or.inl ?_⟩
            · show ((gm_T s).length : Int) ≤ ((gm_rot p.1 p.2 (gm_T s)).length : Int)
              rw [gm_rot_len]
              exact Int.le_refl _
            · have hx : x ∈ gm_rot p.1 p.2 (gm_T s) := hx
              exact mem_rot' hx
/-- one more: the others stay as they are -/
theorem mv_up {x : Int × Int × Int} : ∀ (T : List (Int × Int × Int)) (a : Nat), x ∈ pm_up a T → x ∈ T ∨ ∃ z, T[a]? = some z ∧ z ∈ T ∧ x = (z.1, z.2.1 + 1, z.2.2) := by
  intro T
  induction T with
  | nil => intro a h; cases a <;> cases h
  | cons y q ih =>
    intro a h
    cases a with
    | zero =>
      have h : x ∈ (y.1, y.2.1 + 1, y.2.2) :: q := h
      rcases List.mem_cons.mp h with h | h
      · exact Or.inr ⟨y, rfl, List.mem_cons_self, h⟩
      · exact Or.inl (List.mem_cons_of_mem _ h)
    | succ a =>
      have h : x ∈ y :: pm_up a q := h
      rcases List.mem_cons.mp h with h | h
      · rw [h]
        exact Or.inl List.mem_cons_self
      · rcases ih a h with k | ⟨z, z1, z2, z3⟩
        · exact Or.inl (List.mem_cons_of_mem _ k)
        · exact Or.inr ⟨z, z1, List.mem_cons_of_mem _ z2, z3⟩
theorem mv_F (hN : E.1 N = 0) {l : Int} {e : wk_E} (f1 : gm_F s ≤ N) (h : pm_st g E l e r s = some c) : gm_F s ≤ gm_F c.2 ∧ gm_F c.2 ≤ N := by
  have k := pm_st_F h
  refine ⟨k, ?_⟩
  rcases pm_st_K h with q | ⟨q1, q2⟩
  · omega
  · have : gm_F s ≠ N := fun z => by
      unfold pm_K at q2
      rw [z, hN] at q2
      omega
    omega
theorem mv_run {pf pa : Int → Int → Bool} (hL : wk_L g Y) (hH : pm_Hs g Y E pf pa) (hE : mv_E E N) : ∀ (M n : Nat) (B q : List wk_E) (s s' : gm_S) (X : Int → Prop), n ≤ M → pm_I (B ++ q, s) → pv_w (B ++ q, s) → mv_g Y B → (∀ e ∈ B, e.1 = 5 → ¬ X e.2.2) → (∀ i, X i → i < gm_len s) → 0 ≤ gm_F s → gm_F s ≤ N → pw_to (pm_st g E (wk_ul q)) n (B, s) ([], s') → mv_Q X s → (mv_Q X s' ∧ (∀ x ∈ gm_T s', X (x.1 / 10) → x ∈ gm_T s)) ∧ pm_I (q, s') ∧ pv_w (q, s') ∧ gm_F s ≤ gm_F s' ∧ gm_F s' ≤ N ∧ gm_len s ≤ gm_len s' := by
  intro M
  induction M with
  | zero =>
    intro n B q s s' X hn hI hw hg h5 hX f0 f1 h hQ
    have e0 : n = 0 := by omega
    subst e0
    have h : (B, s) = ([], s') := h
    injection h with h1 h2
    subst h1
    subst h2
    exact ⟨⟨hQ, fun x hx _ => hx⟩, hI, hw, Int.le_refl _, f1, Int.le_refl _⟩
  | succ M ih =>
    intro n B q s s' X hn hI hw hg h5 hX f0 f1 h hQ
    cases n with
    | zero =>
      have h : (B, s) = ([], s') := h
      injection h with h1 h2
      subst h1
      subst h2
      exact ⟨⟨hQ, fun x hx _ => hx⟩, hI, hw, Int.le_refl _, f1, Int.le_refl _⟩
    | succ n =>
      obtain ⟨e, r, c1, a1, a2, a3⟩ := h
      have a1 : B = e :: r := a1
      subst a1
      have a2 : pm_st g E (wk_ul q) e r s = some c1 := a2
      -- the turn, with all that is behind
      have full : pm_st g E 0 e (r ++ q) s = some (c1.1 ++ q, c1.2) := by
        rw [pm_loc, Int.zero_add, a2]
        rfl
      have hc := hw.1 e List.mem_cons_self
      have hI1 : pm_I (c1.1 ++ q, c1.2) := pm_st_I (by omega) hI full
      obtain ⟨hw1, -⟩ := pv_st (V := fun _ => 0) hI hw full
      obtain ⟨F1, F2⟩ := mv_F hE.1 f1 a2
      by_cases ce : e.1 = 5
      · -- once more
        have hst := a2
        unfold pm_st at hst
        rw [if_neg (by omega), if_neg (by omega), if_pos ce] at hst
        unfold pm_ag at hst
        obtain ⟨u0, u1⟩ := (hg e List.mem_cons_self).1 (Or.inr ce)
        have nX := h5 e List.mem_cons_self ce
        by_cases cb : pm_h E e.2.1 s = true
        · rw [if_pos cb] at hst
          have hl := pm_sg_loc (l := wk_ul q) (g := g) (E := E) (u := e.2.1) (r := []) (q := (5, e.2.1, e.2.2) :: r) (s := pm_inc e.2.2 s)
          rw [List.nil_append] at hl
          rw [hl] at hst
          obtain ⟨c0, k1, k2⟩ := Option.map_eq_some_iff.mp hst
          subst k2
          have eul : wk_ul q + wk_ul ((5, e.2.1, e.2.2) :: r) = wk_ul (((5, e.2.1, e.2.2) :: r) ++ q) := by rw [wk_ul_a]; omega
          obtain ⟨n1, s3, i1, i2, i3⟩ := pw_split0 pm_loc (A := c0.1) (q := (5, e.2.1, e.2.2) :: r) a3
          rw [eul] at i2 k1
          have eF : gm_F (pm_inc e.2.2 s) = gm_F s := pm_inc_e.1
          have eT : gm_T (pm_inc e.2.2 s) = pm_up e.2.2.toNat (gm_T s) := pm_inc_e.2.1
          have eL : gm_len (pm_inc e.2.2 s) = gm_len s := pm_inc_len
          have eat : gm_F s < gm_F s3 := by
            have := pm_eat_sg hL hH (pm_eat hL hH n1) (Nat.le_refl _) u0 u1 (by rw [pm_h_of eF]; exact cb) k1 i2
            omega
          obtain ⟨m1, A, m2, m3, m4⟩ := mv_sg hL hE (by omega) (by omega) u0 u1 k1
          rw [List.append_nil] at m2
          subst m2
          obtain ⟨p0, p1, -, v, dd, pg, -⟩ := pv_a hw List.mem_cons_self ce
          have tag : ∀ x, x ∈ gm_T (pm_inc e.2.2 s) → x ∈ gm_T s ∨ (x.1 = 5 + 10 * e.2.2 ∧ ∃ z ∈ gm_T s, z.1 = x.1 ∧ x.2.1 = z.2.1 + 1) := by
            intro x hx
            rw [eT] at hx
            rcases mv_up _ _ hx with k | ⟨z, z1, z2, z3⟩
            · exact Or.inl k
            · have pg : (gm_T s)[e.2.2.toNat]? = some (5 + 10 * e.2.2, v, dd) := pg
              rw [pg] at z1
              injection z1 with z1
              refine Or.inr ⟨by rw [z3, ← z1], z, z2, by rw [z3], by rw [z3]⟩
          have gl2 : gm_len s ≤ gm_len c0.2 := by
            have := m1.1
            omega
          -- the part itself
          have hQ2 : mv_Q (fun i => X i ∨ i = e.2.2) c0.2 := by
            intro x hx
            rcases m1.2 x hx with k | ⟨k1', k2', k3'⟩
            · rcases tag x k with j | ⟨j1, z, z1, z2, z3⟩
              · obtain ⟨j1, j2⟩ := hQ x j
                have fm : gm_F s ≤ gm_F c0.2 := by have := pm_sg_F k1; omega
                exact ⟨j1, fun q5 nq => by have := j2 q5 (fun z => nq (Or.inl z)); omega⟩
              · refine ⟨⟨fun q => by omega, fun q => by omega⟩, fun _ nq => absurd (Or.inr (by omega)) nq⟩
            · exact ⟨k2', fun q5 _ => by have := pm_sg_F k1; rw [k3' q5]; omega⟩
          have fm : gm_F s ≤ gm_F c0.2 := by have := pm_sg_F k1; omega
          obtain ⟨⟨r1, r2⟩, r3, r4, r5, r6, r7⟩ := ih n1 c0.1 (((5, e.2.1, e.2.2) :: r) ++ q) c0.2 s3 (fun i => X i ∨ i = e.2.2) (by omega) (by rw [← List.append_assoc]; exact hI1) (by rw [← List.append_assoc]; exact hw1) m3 (fun z hz z5 => absurd z5 (m4 z hz)) (fun i hi => by
            rcases hi with hi | hi
            · have := hX i hi
              omega
            · omega) (by omega) F2 i2 hQ2
          have ee : e = (5, e.2.1, e.2.2) := by
            obtain ⟨e1, e2, e3⟩ := e
            have ce : e1 = 5 := ce
            rw [ce]
          have hQ3 : mv_Q X s3 := by
            intro x hx
            obtain ⟨j1, j2⟩ := r1 x hx
            refine ⟨j1, fun q5 nx => ?_⟩
            by_cases ci : x.1 / 10 = e.2.2
            · rcases m1.2 x (r2 x hx (Or.inr ci)) with k | ⟨k1', k2', k3'⟩
              · rcases tag x k with j | ⟨y1, z, z1, z2, z3⟩
                · have := (hQ x j).2 q5 nx
                  omega
                · have := (hQ z z1).2 (by rw [z2]; exact q5) (by rw [z2]; exact nx)
                  omega
              · rw [k3' q5]
                omega
            · exact j2 q5 (fun z => by
                rcases z with z | z
                · exact nx z
                · exact ci z)
          obtain ⟨⟨t1, t2⟩, t3, t4, t5, t6, t7⟩ := ih (n - n1) ((5, e.2.1, e.2.2) :: r) q s3 s' X (by omega) r3 r4 (by rw [← ee]; exact hg) (by rw [← ee]; exact h5) (fun i hi => by have := hX i hi; omega) (by omega) r6 i3 hQ3
          refine ⟨⟨t1, fun x hx hx' => ?_⟩, t3, t4, by omega, t6, by omega⟩
          rcases m1.2 x (r2 x (t2 x hx hx') (Or.inl hx')) with k | ⟨k1', -⟩
          · rcases tag x k with j | ⟨y1, -⟩
            · exact j
            · exfalso
              have ei : x.1 / 10 = e.2.2 := by omega
              rw [ei] at hx'
              exact nX hx'
          · have := hX _ hx'
            omega
        · rw [if_neg cb] at hst
          injection hst with hst
          subst hst
          exact ih n r q s s' X (by omega) hI1 hw1 (fun z hz => hg z (List.mem_cons_of_mem _ hz)) (fun z hz => h5 z (List.mem_cons_of_mem _ hz)) hX f0 f1 a3 hQ
      · obtain ⟨m1, m2, m3⟩ := mv_st hL hE f0 f1 ce hg a2
        have gl : gm_len s ≤ gm_len c1.2 := m1.1
        obtain ⟨⟨r1, r2⟩, r3, r4, r5, r6, r7⟩ := ih n c1.1 q c1.2 s' X (by omega) hI1 hw1 m2 (fun z hz z5 => by
          rcases m3 z hz z5 with k | k
          · exact h5 z (List.mem_cons_of_mem _ k) z5
          · intro hx
            have := hX _ hx
            omega) (fun i hi => by have := hX i hi; omega) (by omega) F2 a3 (fun x hx => by
          rcases m1.2 x hx with k | ⟨k1, k2, k3⟩
          · exact ⟨(hQ x k).1, fun q5 nx => by have := (hQ x k).2 q5 nx; omega⟩
          · exact ⟨k2, fun q5 _ => by rw [k3 q5]; omega⟩)
        refine ⟨⟨r1, fun x hx hX' => ?_⟩, r3, r4, by omega, r6, by omega⟩
        rcases m1.2 x (r2 x hx hX') with k | ⟨k1, -⟩
        · exact k
        · have := hX _ hX'
          omega
/-- a parsed tree: its values -/
theorem mv_parse {pf pa : Int → Int → Bool} (hL : wk_L g Y) (hH : pm_Hs g Y E pf pa) (hE : mv_E E N) (N0 : 0 ≤ N) (hr : wk_Lrule Y (g 114 0)) {s' : gm_S} (h : pm_RO g E (pc_0 g 0) ([], s')) : gm_F s' ≤ N ∧ ∀ x ∈ gm_T s', nv_ok x ∧ (x.1 % 10 = 5 → x.2.1 ≤ gm_F s') := by
  obtain ⟨c1, n, h1, h2⟩ := h
  rw [pc_0_e] at h1
  injection h1 with h1
  subst h1
  have e0 : gm_len ((0, 0, [(1, 0, 0)], 1, []) : gm_S) = 1 := by unfold gm_len; rw [gm_T_mk]; rfl
  have n5 : ∀ z ∈ ([(1, g 114 0, 0), (2, 1, 0)] : List wk_E), z.1 ≠ 5 := nP2 (by decide) (by decide)
  have hI : pm_I (([(1, g 114 0, 0), (2, 1, 0)], (0, 0, [(1, 0, 0)], 1, [])) : gm_C) := by
    unfold pm_I
    dsimp only
    rw [e0]
    simp only [gm_D_mk, gm_P_mk]
    refine ⟨rfl, by decide, by decide, ?_, ?_, fun x hx x5 => absurd x5 (n5 x hx)⟩
    · rw [gm_fl_o (by omega) (by decide) (by decide), gm_fl_o (by omega) (by decide) (by decide)]
      trivial
    · rw [pm_al_o (by omega) (by decide), pm_al_o (by omega) (by decide)]
      trivial
  have hw : pv_w (([(1, g 114 0, 0), (2, 1, 0)], (0, 0, [(1, 0, 0)], 1, [])) : gm_C) := by
    refine ⟨fun e he => ?_, fun e he e5 => absurd e5 (n5 e he), pm_lt_app (r := []) n5 trivial, fun x hx => ?_⟩
    · rcases List.mem_cons.mp he with rfl | he
      · exact ⟨show (0 : Int) ≤ 1 by decide, show (1 : Int) ≤ 5 by decide⟩
      · rw [List.mem_singleton.mp he]
        exact ⟨show (0 : Int) ≤ 2 by decide, show (2 : Int) ≤ 5 by decide⟩
    · dsimp only at hx ⊢
      rw [gm_T_mk] at hx
      rw [e0, List.mem_singleton.mp hx]
      exact ⟨show (0 : Int) ≤ 1 by decide, show (1 : Int) / 10 < 1 by decide⟩
  have hg : mv_g Y [(1, g 114 0, 0), (2, 1, 0)] := fun e he => by
    rcases List.mem_cons.mp he with rfl | he
    · exact ⟨fun q => by rcases q with q | q <;> exact absurd q (by dsimp only; decide), fun _ => ⟨hr.1, hr.2.1⟩⟩
    · exact mv_g_2 e he
  have hF0 : gm_F ((0, 0, [(1, 0, 0)], 1, []) : gm_S) = 0 := gm_F_mk _ _ _ _ _
  have hQ : mv_Q (fun _ => False) ((0, 0, [(1, 0, 0)], 1, []) : gm_S) := fun x hx => by
    rw [gm_T_mk] at hx
    rw [List.mem_singleton.mp hx]
    exact ⟨⟨fun q => absurd q (by dsimp only; decide), fun q => absurd q (by dsimp only; decide)⟩, fun q => absurd q (by dsimp only; decide)⟩
  obtain ⟨⟨r1, -⟩, -, -, -, r6, -⟩ := mv_run hL hH hE n n [(1, g 114 0, 0), (2, 1, 0)] [] (0, 0, [(1, 0, 0)], 1, []) s' (fun _ => False) (Nat.le_refl _) (by rw [List.append_nil]; exact hI) (by rw [List.append_nil]; exact hw) hg (fun e he e5 => absurd e5 (n5 e he)) (fun i hi => hi.elim) (by rw [hF0]; exact Int.le_refl _) (by rw [hF0]; exact N0) h2 hQ
  exact ⟨r6, fun x hx => ⟨(r1 x hx).1, fun q5 => (r1 x hx).2 q5 (fun z => z)⟩⟩
end MVS
/-! what grow puts into nodes -/
/-- just n letters -/
def lgx : Nat → Int → Prop
  | 0, v => v = 0
  | n + 1, v => 1 ≤ v % 32 ∧ v % 32 ≤ 26 ∧ lgx n (v / 32)
theorem lgx_d : ∀ (n : Nat) (v : Int), lgx n v → lgd n v := by
  intro n
  induction n with
  | zero => intro v h; exact h
  | succ n ih => intro v h; exact Or.inr ⟨h.1, h.2.1, ih _ h.2.2⟩
theorem lgx_a {a : Int} (a0 : 1 ≤ a) (a1 : a ≤ 26) : ∀ (n : Nat) (v : Int), lgx n v → lgx (n + 1) (v + a * 32 ^ n) := by
  intro n
  induction n with
  | zero =>
    intro v h
    have h : v = 0 := h
    subst h
    have e : (0 : Int) + a * 32 ^ 0 = a := by rw [Int.pow_zero]; omega
    rw [e]
    exact ⟨by omega, by omega, show a / 32 = 0 by omega⟩
  | succ n ih =>
    intro v h
    obtain ⟨h1, h2, h3⟩ := h
    have e : v + a * 32 ^ (n + 1) = v + 32 * (a * 32 ^ n) := by rw [Int.pow_succ]; rw [← Int.mul_assoc]; omega
    have i := ih _ h3
    refine ⟨?_, ?_, ?_⟩
    · rw [e]; omega
    · rw [e]; omega
    · have e2 : (v + a * 32 ^ (n + 1)) / 32 = v / 32 + a * 32 ^ n := by rw [e]; omega
      rw [e2]
      exact i
theorem lgx_b : ∀ (n : Nat) (v : Int), 0 ≤ v → lgx (n + 1) v → 32 ^ n ≤ v := by
  intro n
  induction n with
  | zero => intro v v0 h; obtain ⟨h1, h2, h3⟩ := h; have h3 : v / 32 = 0 := h3; show (1 : Int) ≤ v; omega
  | succ n ih =>
    intro v v0 h
    obtain ⟨h1, h2, h3⟩ := h
    have := ih (v / 32) (by omega) h3
    rw [Int.pow_succ]
    omega
theorem gm_ls_x : ∀ (m k : Nat) (x : Int64) (v : Int), 0 ≤ v → lgx k v → lgx (k + m) (gm_ls m k x v).1 ∧ 0 ≤ (gm_ls m k x v).1 := by
  intro m
  induction m with
  | zero => intro k x v v0 h; exact ⟨h, v0⟩
  | succ m ih =>
    intro k x v v0 h
    have b := gm_vbt (gm_x x) 3 (by decide) (by decide)
    have p : (0 : Int) < 32 ^ k := Int.pow_pos (by decide)
    have q : 0 ≤ (1 + gm_v (gm_x x) 3) * 32 ^ k := Int.mul_nonneg (by omega) (by omega)
    have := ih (k + 1) (gm_x x) (v + (1 + gm_v (gm_x x) 3) * 32 ^ k) (by omega) (lgx_a (by omega) (by omega) k v h)
    rw [show k + (m + 1) = k + 1 + m from by omega]
    exact this
theorem gm_zs_x {kw : Int → Bool} (hk : ∀ c : Int, kw c = true → c < 33554432) : ∀ (m k : Nat) (v : Int), 0 ≤ v → 1 ≤ k → k ≤ 6 → lgx k v → ∃ j : Nat, 1 ≤ j ∧ j ≤ 6 ∧ lgx j (gm_zs kw m k v) ∧ 0 ≤ gm_zs kw m k v := by
  intro m
  induction m with
  | zero => intro k v v0 k1 k6 h; exact ⟨k, k1, k6, h, v0⟩
  | succ m ih =>
    intro k v v0 k1 k6 h
    show ∃ j : Nat, 1 ≤ j ∧ j ≤ 6 ∧ lgx j (if kw v then gm_zs kw m (k + 1) (v + 26 * 32 ^ k) else v) ∧ 0 ≤ (if kw v then gm_zs kw m (k + 1) (v + 26 * 32 ^ k) else v)
    by_cases c : kw v = true
    · rw [if_pos c]
      have hv := hk v c
      have k5 : k ≤ 5 := by
        by_cases e : k ≤ 5
        · exact e
        · exfalso
          have e6 : k = 5 + 1 := by omega
          rw [e6] at h
          have := lgx_b 5 v v0 h
          have e32 : (32 : Int) ^ 5 = 33554432 := by decide
          omega
      have p : (0 : Int) < 32 ^ k := Int.pow_pos (by decide)
      exact ih (k + 1) _ (by omega) (by omega) (by omega) (lgx_a (by decide) (by decide) k v h)
    · rw [if_neg c]
      exact ⟨k, k1, k6, h, v0⟩
theorem gm_nm_x {kw : Int → Bool} (hk : ∀ c : Int, kw c = true → c < 33554432) (x : Int64) : 0 < (gm_nm kw x).1 ∧ lgd 6 (gm_nm kw x).1 := by
  have b := gm_vbt (gm_x x) 3 (by decide) (by decide)
  obtain ⟨l1, l2⟩ := gm_ls_x (1 + gm_v (gm_x x) 3).toNat 0 (gm_x x) 0 (by decide) rfl
  rw [Nat.zero_add] at l1
  obtain ⟨j, j1, j2, j3, j4⟩ := gm_zs_x hk 7 (1 + gm_v (gm_x x) 3).toNat _ l2 (by omega) (by omega) l1
  have e : (gm_nm kw x).1 = gm_zs kw 7 (1 + gm_v (gm_x x) 3).toNat (gm_ls (1 + gm_v (gm_x x) 3).toNat 0 (gm_x x) 0).1 := rfl
  rw [e]
  refine ⟨?_, lgd_up j 6 _ j2 (lgx_d _ _ j3)⟩
  obtain ⟨i, rfl⟩ : ∃ i, j = i + 1 := ⟨j - 1, by omega⟩
  have := lgx_b i _ j4 j3
  have p : (0 : Int) < 32 ^ i := Int.pow_pos (by decide)
  omega
/-- values of nodes that were grown -/
def gv_ok (x : Int × Int × Int) : Prop := nv_ok x ∧ (x.1 % 10 = 5 → x.2.1 ≤ 2)
def gk_A (s : gm_S) : Prop := ∀ x ∈ gm_T s, gv_ok x
section GVK
variable {g : wk_g} {kw : Int → Bool} {s t : gm_S} {r : List wk_E} {c : gm_C}
theorem gvk_c {k v : Int} (hk : 0 ≤ k ∧ k < 10) (h : gm_c k v s = some t) (hv : (k = 2 → 0 ≤ v ∧ v ≤ 9999) ∧ (k = 3 → 0 < v ∧ lgd 6 v) ∧ (k = 5 → v ≤ 2)) (hA : gk_A s) : gk_A t := by
  obtain ⟨-, -, t3, -, -⟩ := gm_c_t h
  intro x hx
  rw [t3] at hx
  rcases List.mem_append.mp hx with hx | hx
  · exact hA x hx
  · have e := List.mem_singleton.mp hx
    have m : (k + 10 * ((gm_T s).length : Int)) % 10 = k := by omega
    rw [e]
    exact ⟨⟨fun q => hv.1 (by dsimp only at q; omega), fun q => hv.2.1 (by dsimp only at q; omega)⟩, fun q => hv.2.2 (by dsimp only at q; omega)⟩
theorem gk_T (e : gm_T t = gm_T s) (hA : gk_A s) : gk_A t := fun x hx => hA x (by rw [← e]; exact hx)
theorem gvk_sg (hk : ∀ c : Int, kw c = true → c < 33554432) {u : Int} (h : gm_sg g kw u r s = some c) (hA : gk_A s) : gk_A c.2 := by
  unfold gm_sg at h
  by_cases c9 : g 119 u.toNat = 9
  · rw [if_pos c9] at h
    unfold gm_en at h
    by_cases cu : 12 ≤ wk_ul r
    · rw [if_pos cu] at h
      cases h
    · rw [if_neg cu] at h
      obtain ⟨t', h1, h2⟩ := Option.map_eq_some_iff.mp h
      subst h2
      exact gk_T gm_d_T (gvk_c (by decide) h1 ⟨fun q => absurd q (by decide), fun q => absurd q (by decide), fun q => absurd q (by decide)⟩ (gk_T (gm_T_mk _ _ _ _ _) hA))
  · rw [if_neg c9] at h
    by_cases c10 : g 119 u.toNat = 10
    · rw [if_pos c10] at h
      injection h with h
      subst h
      exact hA
    · rw [if_neg c10] at h
      by_cases c1 : g 119 u.toNat = 1
      · rw [if_pos c1] at h
        have b := gm_vbt (gm_x (gm_X s)) 10000 (by decide) (by decide)
        generalize gm_x (gm_X s) = y at h b
        generalize gm_v y 10000 = v at h b
        obtain ⟨t', h1, h2⟩ := Option.map_eq_some_iff.mp h
        subst h2
        exact gvk_c (by decide) h1 ⟨fun _ => by omega, fun q => absurd q (by decide), fun q => absurd q (by decide)⟩ (gk_T (gm_T_mk _ _ _ _ _) hA)
      · rw [if_neg c1] at h
        by_cases c2 : g 119 u.toNat = 2
        · rw [if_pos c2] at h
          have b := gm_nm_x hk (gm_X s)
          generalize (gm_nm kw (gm_X s)).1 = v at h b
          generalize (gm_nm kw (gm_X s)).2 = y at h
          obtain ⟨t', h1, h2⟩ := Option.map_eq_some_iff.mp h
          subst h2
          exact gvk_c (by decide) h1 ⟨fun q => absurd q (by decide), fun _ => b, fun q => absurd q (by decide)⟩ (gk_T (gm_T_mk _ _ _ _ _) hA)
        · rw [if_neg c2] at h
          injection h with h
          subst h
          exact hA
theorem gvk_st (hk : ∀ c : Int, kw c = true → c < 33554432) {e : wk_E} (h : gm_st g kw e r s = some c) (hA : gk_A s) : gk_A c.2 := by
  unfold gm_st at h
  by_cases c0 : e.1 = 0
  · rw [if_pos c0] at h
    have yT : gm_T (gm_y (gm_op e.2.2 s)) = gm_T (gm_op e.2.2 s) := by unfold gm_y; rw [gm_T_mk]
    have hO : gk_A (gm_op e.2.2 s) := gk_T gm_op_t hA
    by_cases c1 : g 122 e.2.1.toNat = 1
    · rw [if_pos c1] at h
      have b := gm_n_b gm_vbt 3 (by decide) (by decide) s
      generalize gm_n 3 s = n at h b
      generalize gm_y (gm_op e.2.2 s) = sy at h yT
      obtain ⟨t', h1, h2⟩ := Option.map_eq_some_iff.mp h
      subst h2
      exact gk_T gm_d_T (gvk_c (by decide) h1 ⟨fun q => absurd q (by decide), fun q => absurd q (by decide), fun _ => by omega⟩ (gk_T yT hO))
    · rw [if_neg c1] at h
      by_cases c2 : g 122 e.2.1.toNat = 2
      · rw [if_pos c2] at h
        generalize gm_n 2 s = n at h
        generalize gm_y (gm_op e.2.2 s) = sy at h yT
        obtain ⟨t', h1, h2⟩ := Option.bind_eq_some_iff.mp h
        have hd : gk_A (gm_d t') := gk_T gm_d_T (gvk_c (by decide) h1 ⟨fun q => absurd q (by decide), fun q => absurd q (by decide), fun q => absurd q (by decide)⟩ (gk_T yT hO))
        by_cases cn : 0 < n
        · rw [if_pos cn] at h2
          exact gvk_sg hk h2 hd
        · rw [if_neg cn] at h2
          injection h2 with h2
          subst h2
          exact hd
      · rw [if_neg c2] at h
        exact gvk_sg hk h hO
  · rw [if_neg c0] at h
    by_cases c1 : e.1 = 1
    · rw [if_pos c1] at h
      by_cases cf : 1 < g 130 e.2.1.toNat
      · rw [if_pos cf] at h
        have yT : gm_T (gm_y s) = gm_T s := by unfold gm_y; rw [gm_T_mk]
        generalize gm_w g e.2.1 s = n at h
        generalize gm_y s = sy at h yT
        obtain ⟨t', h1, h2⟩ := Option.map_eq_some_iff.mp h
        subst h2
        exact gk_T gm_d_T (gvk_c (by decide) h1 ⟨fun q => absurd q (by decide), fun q => absurd q (by decide), fun q => absurd q (by decide)⟩ (gk_T yT hA))
      · rw [if_neg cf] at h
        injection h with h
        subst h
        exact hA
    · rw [if_neg c1] at h
      by_cases c5 : e.1 = 5
      · rw [if_pos c5] at h
        by_cases cn : 0 < e.2.2
        · rw [if_pos cn] at h
          exact gvk_sg hk h hA
        · rw [if_neg cn] at h
          injection h with h
          subst h
          exact hA
      · rw [if_neg c5] at h
        by_cases c2 : e.1 = 2
        · rw [if_pos c2] at h
          injection h with h
          subst h
          exact gk_T (gm_T_mk _ _ _ _ _) hA
        · rw [if_neg c2] at h
          by_cases c3 : e.1 = 3
          · rw [if_pos c3] at h
            injection h with h
            subst h
            exact gk_T gm_mid_T hA
          · rw [if_neg c3] at h
            injection h with h
            subst h
            intro x hx
            unfold gm_tu at hx
            split at hx
            · exact hA x hx
            · exact hA x (mem_rot' hx)
theorem gvk_to (hk : ∀ c : Int, kw c = true → c < 33554432) {c' : gm_C} : ∀ (n : Nat) (c : gm_C), gm_to g kw n c c' → gk_A c.2 → gk_A c'.2 := by
  intro n
  induction n with
  | zero =>
    intro c h hA
    have h : c = c' := h
    rw [← h]
    exact hA
  | succ n ih =>
    intro c h hA
    obtain ⟨e, r, c1, -, h2, h3⟩ := h
    exact ih c1 h3 (gvk_st hk h2 hA)
/-- the values of a grown tree -/
theorem gvk_grow (hk : ∀ c : Int, kw c = true → c < 33554432) {x : Int64} {fu : Int} {s' : gm_S} {n : Nat} (h : gm_to g kw n (gr_c0 g x fu) ([], s')) : ∀ y ∈ gm_T s', gv_ok y := by
  refine gvk_to hk n _ h ?_
  intro y hy
  have hy : y ∈ [((1, 0, 0) : Int × Int × Int)] := hy
  rw [List.mem_singleton.mp hy]
  exact ⟨⟨fun q => absurd q (by decide), fun q => absurd q (by decide)⟩, fun q => absurd q (by decide)⟩
end GVK
/-! type and clear, exactly, on both sides -/
section SETR2
variable {d : Nat} {h : sm_H}
/-- a character is typed: room, character, answer, lengths, characters -/
def ef9 (m z y n n' : Int) (c c' : Nat → Int) : Prop := (tx_al z ∧ n < m ∧ y = 1 ∧ n' = n + 1 ∧ ∀ j, c' j = if j = n.toNat then z else c j) ∨ (¬ (tx_al z ∧ n < m) ∧ y = 0 ∧ n' = n ∧ ∀ j, c' j = c j)
def xt_Q (zt zc : Int) (h : sm_H) (w : Option mi_V) (h' : sm_H) : Prop := ab_Sh sx_sk h' ∧ ∃ y, w = some (.inl y) ∧ (((zt < 0 ∨ 1 < zt) ∧ mi_f h' 13952 = 1 ∧ y = 0 ∧ ab_Fr [(13952, 13953)] h h') ∨ (zt = 0 ∧ mi_f h' 13952 = 0 ∧ ab_Fr rt_W h h' ∧ ef9 240 zc y (mi_f h 13953) (mi_f h' 13953) (mi_a h 110) (mi_a h' 110)) ∨ (zt = 1 ∧ mi_f h' 13952 = 0 ∧ ab_Fr rt_V h h' ∧ ef9 160 zc y (mi_f h 13954) (mi_f h' 13954) (mi_a h 111) (mi_a h' 111)))
theorem me_typex {zt zc : Int} (hS : ab_Sh sx_sk h) (ot : mi_in zt) (z0 : 0 ≤ zc) (z1 : zc ≤ 65535) : me_E d 171 0 [some (.inr (.inr 109)), some (.inl zt), some (.inl zc)] [] h (xt_Q zt zc h) := by
  have oc : mi_in zc := ⟨by omega, by omega⟩
  have no : ∀ h1, ab_Sh sx_sk h1 → mi_f h1 13952 = 0 → ab_Fr [(13952, 13953)] h h1 → (zt = 0 → ¬ (tx_al zc ∧ mi_f h 13953 < 240)) → (zt = 1 → ¬ (tx_al zc ∧ mi_f h 13954 < 160)) → (zt = 0 ∨ zt = 1) → xt_Q zt zc h (some (.inl 0)) h1 := fun h1 g1 g0 g2 n n' q => by
    refine ⟨g1, 0, rfl, ?_⟩
    rcases q with q | q
    · exact Or.inr (Or.inl ⟨q, g0, g2.wide (fun c hc => ab_swr_ok (by decide) hc), Or.inr ⟨n q, rfl, me_f (c := 13953) g2 hS rfl rfl, fun i => me_a (k := 110) g2 hS rfl rfl⟩⟩)
    · exact Or.inr (Or.inr ⟨q, g0, g2.wide (fun c hc => ab_swr_ok (by decide) hc), Or.inr ⟨n' q, rfl, me_f (c := 13954) g2 hS rfl rfl, fun i => me_a (k := 111) g2 hS rfl rfl⟩⟩)
  have t45 : ∀ h1, ab_Sh sx_sk h1 → mi_f h1 13952 = 0 → ab_Fr [(13952, 13953)] h h1 → tx_al zc → (zt = 0 ∨ zt = 1) → me_E d 171 45 [some (.inr (.inr 109)), some (.inl zt), some (.inl zc)] [] h1 (xt_Q zt zc h) := by
    intro h1 g1 g0 g2 al hz
    have e53 : mi_f h1 13953 = mi_f h 13953 := me_f (c := 13953) g2 hS rfl rfl
    have e54 : mi_f h1 13954 = mi_f h 13954 := me_f (c := 13954) g2 hS rfl rfl
    have al' := al
    unfold tx_al at al'
    refine mt_rtB g1 ot oc ?_ ?_ ?_ ?_
    · intro b c1 c2
      refine ⟨by omega, fun h2 s1 s2 s3 s4 => ⟨s1, 1, rfl, Or.inr (Or.inr ⟨by omega, by rw [me_f (c := 13952) s4 g1 rfl rfl, g0], (g2.wide (fun c hc => ab_swr_ok (by decide) hc)).trans (s4.wide (fun c hc => ab_swr_ok (by decide) hc)), Or.inl ⟨al, by omega, rfl, by rw [s2, e54], fun j => ?_⟩⟩)⟩⟩
      rw [s3 j, e54, me_a (k := 111) g2 hS rfl rfl]
    · intro b c1 c2 h2 s1 s2
      have e0 := me_nil s2
      subst e0
      exact no h2 g1 g0 g2 (fun q => absurd q c1) (fun _ q => by have := q.2; omega) hz
    · intro b c1 c2
      refine ⟨by omega, fun h2 s1 s2 s3 s4 => ⟨s1, 1, rfl, Or.inr (Or.inl ⟨c1, by rw [me_f (c := 13952) s4 g1 rfl rfl, g0], (g2.wide (fun c hc => ab_swr_ok (by decide) hc)).trans (s4.wide (fun c hc => ab_swr_ok (by decide) hc)), Or.inl ⟨al, by omega, rfl, by rw [s2, e53], fun j => ?_⟩⟩)⟩⟩
      rw [s3 j, e53, me_a (k := 110) g2 hS rfl rfl]
    · intro b c1 c2 h2 s1 s2
      have e0 := me_nil s2
      subst e0
      exact no h2 g1 g0 g2 (fun _ q => by have := q.2; omega) (fun q => by omega) hz
  have nal : ¬ tx_al zc → ∀ m n : Int, ¬ (tx_al zc ∧ n < m) := fun q m n p => q p.1
  refine mt_rtA hS ot oc ?_ ?_ ?_ ?_ ?_ ?_
  · intro c1 h1 g1 g2 g3
    exact ⟨g1, 0, rfl, Or.inl ⟨Or.inl c1, g2, rfl, g3⟩⟩
  · intro c1 c2 c3 h1 g1 g2 g3
    exact t45 h1 g1 g2 g3 (Or.inl c3) (by omega)
  · intro c1 c2 c3 c4 h1 g1 g2 g3
    have q : ¬ tx_al zc := fun p => by unfold tx_al at p; omega
    exact no h1 g1 g2 g3 (fun _ => nal q _ _) (fun _ => nal q _ _) (by omega)
  · intro c1 c2 c3 c4 c5 h1 g1 g2 g3
    exact t45 h1 g1 g2 g3 (Or.inr ⟨c4, c5⟩) (by omega)
  · intro c1 c2 c3 c4 c5 h1 g1 g2 g3
    have q : ¬ tx_al zc := fun p => by unfold tx_al at p; omega
    exact no h1 g1 g2 g3 (fun _ => nal q _ _) (fun _ => nal q _ _) (by omega)
  · intro c1 c2 h1 g1 g2 g3
    exact ⟨g1, 0, rfl, Or.inl ⟨Or.inr c2, g2, rfl, g3⟩⟩
def xl_Q (zt : Int) (h : sm_H) (w : Option mi_V) (h' : sm_H) : Prop := ab_Sh sx_sk h' ∧ ∃ y, w = some (.inl y) ∧ (((zt < 0 ∨ 1 < zt) ∧ mi_f h' 13952 = 1 ∧ y = 0 ∧ ab_Fr [(13952, 13953)] h h') ∨ (zt = 0 ∧ mi_f h' 13952 = 0 ∧ ab_Fr [(13952, 13955)] h h' ∧ mi_f h' 13953 = 0 ∧ mi_f h' 13954 = mi_f h 13954 ∧ y = mi_f h 13953) ∨ (zt = 1 ∧ mi_f h' 13952 = 0 ∧ ab_Fr [(13952, 13955)] h h' ∧ mi_f h' 13953 = mi_f h 13953 ∧ mi_f h' 13954 = 0 ∧ y = mi_f h 13954))
theorem me_clearx {zt : Int} (hS : ab_Sh sx_sk h) (ot : mi_in zt) : me_E d 172 0 [some (.inr (.inr 109)), some (.inl zt), none] [] h (xl_Q zt h) := by
  refine mt_rcA hS ot ?_ ?_ ?_ ?_ ?_ ?_
  · intro c1 h1 g1 g2 g3
    exact ⟨g1, 0, rfl, Or.inl ⟨Or.inl c1, g2, rfl, g3⟩⟩
  · intro b b' c1 c2 c3 c4; exfalso; omega
  · intro b c1 c2 c3 c4
    exact ⟨b, fun h1 g1 g2 g3 g4 g5 => ⟨g1, _, rfl, Or.inr (Or.inr ⟨c4, g2, g5, g3, g4, rfl⟩)⟩⟩
  · intro b c1 c2 c3 c4
    exact ⟨b, fun h1 g1 g2 g3 g4 g5 => ⟨g1, _, rfl, Or.inr (Or.inl ⟨c3, g2, g5, g3, g4, rfl⟩)⟩⟩
  · intro c1 c2 c3 c4; exfalso; omega
  · intro c1 c2 h1 g1 g2 g3
    exact ⟨g1, 0, rfl, Or.inl ⟨Or.inr c2, g2, rfl, g3⟩⟩
end SETR2
section TYPC
variable {d : Nat} {h : sm_H}
theorem me_appg0 {zc : Int} (hS : ab_Sh sx_sk h) (z0 : 0 ≤ zc) (z1 : zc ≤ 65535) : me_E d 91 0 [some (.inr (.inr 52)), some (.inl zc), none] [] h (fun w h' => ab_Sh sx_sk h' ∧ ab_Fr [(6657, 6658), (6784, 6785)] h h' ∧ ∃ y, w = some (.inl y) ∧ ef9 240 zc y (mi_f h 6657) (mi_f h' 6657) (mi_a h 53) (mi_a h' 53)) := by
  have oc : mi_in zc := ⟨by omega, by omega⟩
  have f0 : ab_Fr [(6657, 6658), (6784, 6785)] h h := ab_Fr.refl
  have t24 : tx_al zc → me_E d 91 24 [some (.inr (.inr 52)), some (.inl zc), some (.inl 1)] [] h (fun w h' => ab_Sh sx_sk h' ∧ ab_Fr [(6657, 6658), (6784, 6785)] h h' ∧ ∃ y, w = some (.inl y) ∧ ef9 240 zc y (mi_f h 6657) (mi_f h' 6657) (mi_a h 53) (mi_a h' 53)) := fun al => by
    refine mt_apB hS oc ⟨by decide, by decide⟩ (fun q => absurd q (by decide)) (by intros; exfalso; omega) ?_ ?_
    · intro b c1 c2 c3 h1 g1 g2
      have e0 := me_nil g2
      subst e0
      refine me_castore (m := 91) (M := (3, 4, sb_91)) rfl rfl g1 z0 z1 c2 c3 (fun h2 s1 s2 s3 => ?_)
      have e57 : mi_f h2 6657 = mi_f h1 6657 := me_f (c := 6657) s3 g1 rfl rfl
      refine mt_apC s1 oc ⟨by decide, by decide⟩ (fun b => ⟨by omega, fun h3 t1 t2 t3 => ⟨t1, (s3.wide (fun c hc => ab_swr_ok (by decide) hc)).trans (t3.wide (fun c hc => ab_swr_ok (by decide) hc)), 1, rfl, Or.inl ⟨al, c3, rfl, by rw [t2, e57], fun j => ?_⟩⟩⟩)
      rw [me_a (k := 53) t3 s1 rfl rfl]
      exact s2 j
    · intro b c1 c2 c3 h1 g1 g2
      have e0 := me_nil g2
      subst e0
      exact ⟨g1, f0, 0, rfl, Or.inr ⟨fun q => by have := q.2; omega, rfl, rfl, fun _ => rfl⟩⟩
  have f24 : ¬ tx_al zc → me_E d 91 24 [some (.inr (.inr 52)), some (.inl zc), some (.inl 0)] [] h (fun w h' => ab_Sh sx_sk h' ∧ ab_Fr [(6657, 6658), (6784, 6785)] h h' ∧ ∃ y, w = some (.inl y) ∧ ef9 240 zc y (mi_f h 6657) (mi_f h' 6657) (mi_a h 53) (mi_a h' 53)) := fun al => by
    refine mt_apB hS oc ⟨by decide, by decide⟩ (fun q h1 g1 g2 => ?_) (fun _ q => absurd rfl q) (fun _ q => absurd rfl q) (fun _ q => absurd rfl q)
    have e0 := me_nil g2
    subst e0
    exact ⟨g1, f0, 0, rfl, Or.inr ⟨fun q => al q.1, rfl, rfl, fun _ => rfl⟩⟩
  refine mt_apA hS oc ?_ ?_ ?_ ?_ ?_
  · intro c1 c2 h1 g1 g2
    have e0 := me_nil g2
    subst e0
    exact f24 (fun q => by unfold tx_al at q; omega)
  · intro c1 c2 h1 g1 g2
    have e0 := me_nil g2
    subst e0
    exact t24 (Or.inl c2)
  · intro c1 c2 h1 g1 g2
    have e0 := me_nil g2
    subst e0
    exact t24 (Or.inr ⟨c1, c2⟩)
  · intro c1 c2 c3 h1 g1 g2
    have e0 := me_nil g2
    subst e0
    exact f24 (fun q => by unfold tx_al at q; omega)
  · intro c1 c2 c3; exfalso; omega
theorem me_typeg0 {zc : Int} (hS : ab_Sh sx_sk h) (z0 : 0 ≤ zc) (z1 : zc ≤ 65535) : me_E (d + 1) 95 0 [some (.inr (.inr 51)), some (.inl 0), some (.inl zc)] [] h (fun w h' => ab_Sh sx_sk h' ∧ ab_Fr [(6657, 6658), (6784, 6785)] h h' ∧ ∃ y, w = some (.inl y) ∧ ef9 240 zc y (mi_f h 6657) (mi_f h' 6657) (mi_a h 53) (mi_a h' 53)) := by
  have oc : mi_in zc := ⟨by omega, by omega⟩
  refine mt_tyA hS fm_in0 oc ?_ (fun q => absurd rfl q) (fun q => absurd rfl q)
  intro c1 h1 g1 g2
  have e0 := me_nil g2
  subst e0
  refine ⟨_, me_text0 (d := d + 0) hS, fun w h2 oww hq => ?_⟩
  obtain ⟨rfl, rfl⟩ := hq
  refine mt_tyC hS fm_in0 oc (fun h1 g1 g2 => ?_)
  have e0 := me_nil g2
  subst e0
  refine ⟨_, me_appg0 (d := d + 0) hS z0 z1, fun w h2 oww hq => ?_⟩
  obtain ⟨q1, q2, y, rfl, q3⟩ := hq
  have hy : y = 0 ∨ y = 1 := by
    rcases q3 with ⟨-, -, y1, -⟩ | ⟨-, y1, -⟩
    · exact Or.inr y1
    · exact Or.inl y1
  refine mt_tyB q1 fm_in0 oc ⟨by omega, by omega⟩ ⟨hy, fun h3 g1 g2 => ?_⟩
  have e0 := me_nil g2
  subst e0
  exact ⟨q1, q2, y, rfl, q3⟩
theorem me_clearg0 (hS : ab_Sh sx_sk h) : me_E (d + 1) 97 0 [some (.inr (.inr 51)), some (.inl 0), none] [] h (fun w h' => ab_Sh sx_sk h' ∧ ab_Fr [(6657, 6658)] h h' ∧ w = some (.inl (mi_f h 6657)) ∧ mi_f h' 6657 = 0) := by
  have b := me_fb (c := 6657) hS rfl
  refine mt_cwA hS fm_in0 ?_ (fun q => absurd rfl q) (fun q => absurd rfl q)
  intro c1 h1 g1 g2
  have e0 := me_nil g2
  subst e0
  refine ⟨_, me_text0 (d := d + 0) hS, fun w h2 oww hq => ?_⟩
  obtain ⟨rfl, rfl⟩ := hq
  refine mt_cwB hS fm_in0 (fun h1 g1 g2 => ?_)
  have e0 := me_nil g2
  subst e0
  refine ⟨_, me_text0 (d := d + 0) hS, fun w h2 oww hq => ?_⟩
  obtain ⟨rfl, rfl⟩ := hq
  exact mt_cwC hS fm_in0 ⟨by omega, by omega⟩ (fun h1 g1 g2 g3 => ⟨g1, g3, rfl, g2⟩)
theorem me_appg1 {zc : Int} (hS : ab_Sh sx_sk h) (z0 : 0 ≤ zc) (z1 : zc ≤ 65535) : me_E d 91 0 [some (.inr (.inr 54)), some (.inl zc), none] [] h (fun w h' => ab_Sh sx_sk h' ∧ ab_Fr [(6913, 6914), (7040, 7041)] h h' ∧ ∃ y, w = some (.inl y) ∧ ef9 160 zc y (mi_f h 6913) (mi_f h' 6913) (mi_a h 55) (mi_a h' 55)) := by
  have oc : mi_in zc := ⟨by omega, by omega⟩
  have f0 : ab_Fr [(6913, 6914), (7040, 7041)] h h := ab_Fr.refl
  have t24 : tx_al zc → me_E d 91 24 [some (.inr (.inr 54)), some (.inl zc), some (.inl 1)] [] h (fun w h' => ab_Sh sx_sk h' ∧ ab_Fr [(6913, 6914), (7040, 7041)] h h' ∧ ∃ y, w = some (.inl y) ∧ ef9 160 zc y (mi_f h 6913) (mi_f h' 6913) (mi_a h 55) (mi_a h' 55)) := fun al => by
    refine mt_a54B hS oc ⟨by decide, by decide⟩ (fun q => absurd q (by decide)) (by intros; exfalso; omega) ?_ ?_
    · intro b c1 c2 c3 h1 g1 g2
      have e0 := me_nil g2
      subst e0
      refine me_cast55 (m := 91) (M := (3, 4, sb_91)) rfl rfl g1 z0 z1 c2 c3 (fun h2 s1 s2 s3 => ?_)
      have e57 : mi_f h2 6913 = mi_f h1 6913 := me_f (c := 6913) s3 g1 rfl rfl
      refine mt_a54C s1 oc ⟨by decide, by decide⟩ (fun b => ⟨by omega, fun h3 t1 t2 t3 => ⟨t1, (s3.wide (fun c hc => ab_swr_ok (by decide) hc)).trans (t3.wide (fun c hc => ab_swr_ok (by decide) hc)), 1, rfl, Or.inl ⟨al, c3, rfl, by rw [t2, e57], fun j => ?_⟩⟩⟩)
      rw [me_a (k := 55) t3 s1 rfl rfl]
      exact s2 j
    · intro b c1 c2 c3 h1 g1 g2
      have e0 := me_nil g2
      subst e0
      exact ⟨g1, f0, 0, rfl, Or.inr ⟨fun q => by have := q.2; omega, rfl, rfl, fun _ => rfl⟩⟩
  have f24 : ¬ tx_al zc → me_E d 91 24 [some (.inr (.inr 54)), some (.inl zc), some (.inl 0)] [] h (fun w h' => ab_Sh sx_sk h' ∧ ab_Fr [(6913, 6914), (7040, 7041)] h h' ∧ ∃ y, w = some (.inl y) ∧ ef9 160 zc y (mi_f h 6913) (mi_f h' 6913) (mi_a h 55) (mi_a h' 55)) := fun al => by
    refine mt_a54B hS oc ⟨by decide, by decide⟩ (fun q h1 g1 g2 => ?_) (fun _ q => absurd rfl q) (fun _ q => absurd rfl q) (fun _ q => absurd rfl q)
    have e0 := me_nil g2
    subst e0
    exact ⟨g1, f0, 0, rfl, Or.inr ⟨fun q => al q.1, rfl, rfl, fun _ => rfl⟩⟩
  refine mt_a54A hS oc ?_ ?_ ?_ ?_ ?_
  · intro c1 c2 h1 g1 g2
    have e0 := me_nil g2
    subst e0
    exact f24 (fun q => by unfold tx_al at q; omega)
  · intro c1 c2 h1 g1 g2
    have e0 := me_nil g2
    subst e0
    exact t24 (Or.inl c2)
  · intro c1 c2 h1 g1 g2
    have e0 := me_nil g2
    subst e0
    exact t24 (Or.inr ⟨c1, c2⟩)
  · intro c1 c2 c3 h1 g1 g2
    have e0 := me_nil g2
    subst e0
    exact f24 (fun q => by unfold tx_al at q; omega)
  · intro c1 c2 c3; exfalso; omega
theorem me_typeg1 {zc : Int} (hS : ab_Sh sx_sk h) (z0 : 0 ≤ zc) (z1 : zc ≤ 65535) : me_E (d + 1) 95 0 [some (.inr (.inr 51)), some (.inl 1), some (.inl zc)] [] h (fun w h' => ab_Sh sx_sk h' ∧ ab_Fr [(6913, 6914), (7040, 7041)] h h' ∧ ∃ y, w = some (.inl y) ∧ ef9 160 zc y (mi_f h 6913) (mi_f h' 6913) (mi_a h 55) (mi_a h' 55)) := by
  have oc : mi_in zc := ⟨by omega, by omega⟩
  refine mt_tyA hS fm_in1 oc (fun q => absurd q (by decide)) ?_ (fun _ q => absurd rfl q)
  intro c0 c1 h1 g1 g2
  have e0 := me_nil g2
  subst e0
  refine ⟨_, me_text1 (d := d + 0) hS, fun w h2 oww hq => ?_⟩
  obtain ⟨rfl, rfl⟩ := hq
  refine mt_tyD hS fm_in1 oc (fun h1 g1 g2 => ?_)
  have e0 := me_nil g2
  subst e0
  refine ⟨_, me_appg1 (d := d + 0) hS z0 z1, fun w h2 oww hq => ?_⟩
  obtain ⟨q1, q2, y, rfl, q3⟩ := hq
  have hy : y = 0 ∨ y = 1 := by
    rcases q3 with ⟨-, -, y1, -⟩ | ⟨-, y1, -⟩
    · exact Or.inr y1
    · exact Or.inl y1
  refine mt_tyB q1 fm_in1 oc ⟨by omega, by omega⟩ ⟨hy, fun h3 g1 g2 => ?_⟩
  have e0 := me_nil g2
  subst e0
  exact ⟨q1, q2, y, rfl, q3⟩
theorem me_clearg1 (hS : ab_Sh sx_sk h) : me_E (d + 1) 97 0 [some (.inr (.inr 51)), some (.inl 1), none] [] h (fun w h' => ab_Sh sx_sk h' ∧ ab_Fr [(6913, 6914)] h h' ∧ w = some (.inl (mi_f h 6913)) ∧ mi_f h' 6913 = 0) := by
  have b := me_fb (c := 6913) hS rfl
  refine mt_cwA hS fm_in1 (fun q => absurd q (by decide)) ?_ (fun _ q => absurd rfl q)
  intro c0 c1 h1 g1 g2
  have e0 := me_nil g2
  subst e0
  refine ⟨_, me_text1 (d := d + 0) hS, fun w h2 oww hq => ?_⟩
  obtain ⟨rfl, rfl⟩ := hq
  refine mt_cwD hS fm_in1 (fun h1 g1 g2 => ?_)
  have e0 := me_nil g2
  subst e0
  refine ⟨_, me_text1 (d := d + 0) hS, fun w h2 oww hq => ?_⟩
  obtain ⟨rfl, rfl⟩ := hq
  exact mt_cwE hS fm_in1 ⟨by omega, by omega⟩ (fun h1 g1 g2 g3 => ⟨g1, g3, rfl, g2⟩)
end TYPC
/-! the reference's read leaves all texts and trees as they were; compile drops the trees on both sides -/
def mr_V : List (Nat × Nat) := [(13956, 14015), (14018, 14080), (14464, 19840), (21120, 21761)]
def rd_Qfn (h : sm_H) (w : Option mi_V) (h' : sm_H) : Prop := w = none ∧ ab_Sh sx_sk h' ∧ ab_Fr mr_V h h' ∧ (mi_f h' 13960 ≤ 0 → ∃ Y, sy_L h' Y ∧ wk_Lrule Y (mi_a h' 114 0))
def rd_Okfn : Prop := ∀ h, ab_Sh sx_sk h → me_E 59 176 0 [some (.inr (.inr 109)), none, none] [] h (rd_Qfn h)
section REA
variable {h0 h : sm_H}
/-- the last loop: over the uses -/
def re_Ufn (h0 h : sm_H) (zt : Int) : Prop := ab_Sh sx_sk h ∧ ab_Fr mr_V h0 h ∧ 0 ≤ mi_f h 13960 ∧ (mi_f h 13960 = 0 → 1 ≤ mi_f h 13961 ∧ (∃ Y z, rs_B h Y z 0) ∧ ∀ u, 0 ≤ u → u < zt → u < mi_f h 13963 → mi_a h 119 u.toNat = 9 → 0 ≤ mi_a h 115 (mi_a h 120 u.toNat).toNat)
theorem re117fn : ∀ (N : Nat) (zm zt : Int) (h : sm_H), 60 - zt < N → 0 ≤ zt → zt ≤ 60 → mi_in zm → re_Ufn h0 h zt → me_E 59 176 117 [some (.inr (.inr 109)), some (.inl zm), some (.inl zt)] [] h (rd_Qfn h0) := by
  intro N
  induction N with
  | zero => intro zm zt h hN t0 t1; exfalso; omega
  | succ N ih =>
    intro zm zt h hN t0 t1 om hH
    obtain ⟨s1, s2, s3, s4⟩ := hH
    have ot : mi_in zt := ⟨by omega, by omega⟩
    refine mt_reF (d := 43) s1 om ot ?_ ?_ ?_ ?_ ?_
    · intro b c h1 g1 g2
      have e := me_nil g2
      subst e
      refine ⟨rfl, s1, s2, fun x => ?_⟩
      obtain ⟨y1, ⟨Y, z, y2⟩, y3⟩ := s4 (by omega)
      exact re_end y2 s1 y1 (fun u x0 x1 x9 => y3 u x0 (by omega) x1 x9)
    · intro b b2 c c2 h1 g1 g2
      have e := me_nil g2
      subst e
      exact ⟨rfl, s1, s2, fun x => by omega⟩
    · intro b b2 c c2 c3
      refine ⟨⟨⟨by omega, by omega⟩, ⟨by omega, by omega⟩⟩, fun h1 g1 g2 => ?_⟩
      have e := me_nil g2
      subst e
      refine ih zm (zt + 1) h1 (by omega) (by omega) (by omega) om ⟨s1, s2, s3, fun x => ?_⟩
      obtain ⟨y1, y2, y3⟩ := s4 x
      refine ⟨y1, y2, fun u x0 x1 x2 x9 => ?_⟩
      by_cases e : u = zt
      · rw [e] at x9
        exact absurd x9 c3
      · exact y3 u x0 (by omega) x2 x9
    · intro b b2 c c2 c3 c4
      obtain ⟨y1, ⟨Y, z, y2⟩, y3⟩ := s4 c2
      have w4 := (y2.1.2.1 zt t0 (by have := y2.2.1; omega)).2.2.2.1 c3
      refine ⟨⟨⟨by omega, by omega⟩, w4, ⟨by omega, by omega⟩⟩, fun h1 g1 g2 => ?_⟩
      have e := me_nil g2
      subst e
      refine ih zm (zt + 1) h1 (by omega) (by omega) (by omega) om ⟨s1, s2, s3, fun x => ⟨y1, ⟨Y, z, y2⟩, fun u x0 x1 x2 x9 => ?_⟩⟩
      by_cases e : u = zt
      · rw [e]
        exact c4
      · exact y3 u x0 (by omega) x2 x9
    · intro b b2 c c2 c3 c4
      obtain ⟨y1, ⟨Y, z, y2⟩, y3⟩ := s4 c2
      have w4 := (y2.1.2.1 zt t0 (by have := y2.2.1; omega)).2.2.2.1 c3
      have w5 := y2.2.2.2.2.2.2.1.2.2 zt t0 c
      refine ⟨⟨⟨by omega, by omega⟩, w4⟩, fun h1 g1 g2 => ?_⟩
      have e := me_nil g2
      subst e
      refine ⟨_, me_blame (d := 58) s1 (by decide) (by decide) (by omega) (by omega) (by omega), fun w h2 oww hq => ?_⟩
      obtain ⟨rfl, v1, v2, v3⟩ := hq
      refine mt_reG (d := 43) v1 om ot ⟨⟨by omega, by omega⟩, fun h3 g1 g2 => ?_⟩
      have e := me_nil g2
      subst e
      exact ih zm (zt + 1) h3 (by omega) (by omega) (by omega) om ⟨v1, s2.trans (v2.wide (fun c hc => ab_swr_ok (by decide) hc)), by omega, fun x => by omega⟩
/-- the loop over the rules -/
def re_Hfn (h0 h : sm_H) (zm zt : Int) : Prop := ab_Sh sx_sk h ∧ ab_Fr mr_V h0 h ∧ 0 ≤ mi_f h 13960 ∧ (mi_f h 13960 = 0 → (zm ≠ 0 → mi_f h 14000 ≤ 241) ∧ (1 ≤ mi_f h 13961 ∨ (zt = 0 ∧ zm ≠ 0)) ∧ ∃ Y z, rs_B h Y z 0)
theorem re60fn : ∀ (N : Nat) (zm zt : Int) (h : sm_H), 12 - zt < N → 0 ≤ zt → zt ≤ 12 → mi_in zm → re_Hfn h0 h zm zt → me_E 59 176 60 [some (.inr (.inr 109)), some (.inl zm), some (.inl zt)] [] h (rd_Qfn h0) := by
  intro N
  induction N with
  | zero => intro zm zt h hN t0 t1; exfalso; omega
  | succ N ih =>
    intro zm zt h hN t0 t1 om hH
    obtain ⟨s1, s2, s3, s4⟩ := hH
    have ot : mi_in zt := ⟨by omega, by omega⟩
    have fin : (mi_f h 13960 = 0 → 1 ≤ mi_f h 13961) → ∀ h1, ab_Sh sx_sk h1 → ab_Fr [] h h1 → me_E 59 176 117 [some (.inr (.inr 109)), some (.inl zm), some (.inl 0)] [] h1 (rd_Qfn h0) := fun hr h1 g1 g2 => by
      have e := me_nil g2
      subst e
      refine re117fn 62 zm 0 h1 (by decide) (by decide) (by decide) om ⟨s1, s2, s3, fun x => ?_⟩
      obtain ⟨y1, y2, y3⟩ := s4 x
      exact ⟨hr x, y3, fun u x0 x1 => by omega⟩
    refine mt_reC (d := 43) s1 om ot ?_ ?_ ?_ ?_
    · intro c
      exact fin (fun x => by obtain ⟨y1, y2, y3⟩ := s4 x; omega)
    · intro c c2
      exact fin (fun x => by obtain ⟨y1, y2, y3⟩ := s4 x; omega)
    · intro b c c2 c3
      exact fin (fun x => by omega)
    · intro b c c2 c3 h1 g1 g2
      have e := me_nil g2
      subst e
      obtain ⟨y1, y2, Y, z, y3⟩ := s4 c3
      refine ⟨_, me_scan (d := 56) s1 (y1 c2), fun w h2 oww hq => ?_⟩
      obtain ⟨rfl, r1, r2, r3⟩ := hq
      have ef : mi_f h2 13960 = 0 := (me_f (c := 13960) r2 s1 rfl rfl).trans c3
      have F2 : ab_Fr mr_V h0 h2 := s2.trans (r2.wide (fun c hc => ab_swr_ok (by decide) hc))
      have B2 := rs_Bfr y3 s1 r2 (by decide)
      have ru : ∃ Q1, me_E 58 183 0 (mi_entry 3 [.inr (.inr 109)]) [] h2 Q1 ∧ ∀ w h3, (∀ x, w = some x → mi_ok x) → Q1 w h3 → me_E 59 176 109 [some (.inr (.inr 109)), some (.inl 1), some (.inl zt)] (mi_back w []) h3 (rd_Qfn h0) := by
        refine ⟨_, me_rule (d := 44) B2 r1 ef r3, fun w h3 oww hq => ?_⟩
        obtain ⟨rfl, v1, v2, v3, v4⟩ := hq
        refine mt_reE (d := 43) v1 fm_in1 ot ⟨⟨by omega, by omega⟩, fun h4 g1 g2 => ?_⟩
        have e := me_nil g2
        subst e
        refine ih 1 (zt + 1) h4 (by omega) (by omega) (by omega) fm_in1 ⟨v1, F2.trans (v2.wide (fun c hc => ab_swr_ok (by decide) hc)), v3, fun x => ?_⟩
        obtain ⟨x1, x2, x3⟩ := v4 x
        exact ⟨fun _ => x1, Or.inl x2, x3⟩
      refine mt_reD (d := 43) r1 om ot ?_ ?_ ?_
      · intro b c h3 g1 g2
        have e := me_nil g2
        subst e
        exact ru
      · intro b b2 c4 c5
        refine ⟨⟨by omega, by omega⟩, fun h3 g1 g2 => ?_⟩
        have e := me_nil g2
        subst e
        exact ih 0 (zt + 1) h3 (by omega) (by omega) (by omega) fm_in0 ⟨r1, F2, by omega, fun _ => ⟨fun x => absurd rfl x, Or.inl (by omega), Y, z, B2⟩⟩
      · intro b b2 c4 c5 h3 g1 g2
        have e := me_nil g2
        subst e
        exact ru
def re_Afn (h0 h : sm_H) (zk : Int) : Prop := ab_Sh sx_sk h ∧ ab_Fr mr_V h0 h ∧ (mi_f h 13960 = 0 ∧ mi_f h 13961 = 0 ∧ mi_f h 13963 = 0 ∧ mi_f h 13964 = 0 ∧ mi_f h 13965 = 0 ∧ mi_f h 14000 = 0) ∧ ∀ n : Nat, (n : Int) < zk → mi_a h 115 n = -1
theorem re37fn : ∀ (N : Nat) (zk : Int) (h : sm_H), 26 - zk < N → 0 ≤ zk → zk ≤ 26 → re_Afn h0 h zk → me_E 59 176 37 [some (.inr (.inr 109)), some (.inl zk), none] [] h (rd_Qfn h0) := by
  intro N
  induction N with
  | zero => intro zk h hN t0 t1; exfalso; omega
  | succ N ih =>
    intro zk h hN t0 t1 hH
    obtain ⟨s1, s2, ⟨a1, a2, a3, a4, a5, a6⟩, s4⟩ := hH
    have ok : mi_in zk := ⟨by omega, by omega⟩
    refine mt_reB (d := 43) s1 ok ?_ ?_
    · intro c h1 g1 g2
      have e := me_nil g2
      subst e
      refine re60fn 14 1 0 h1 (by decide) (by decide) (by decide) fm_in1 ⟨s1, s2, by omega, fun _ => ⟨fun _ => by omega, Or.inr ⟨rfl, by decide⟩, re_Y0, re_Z0, re_I0 _, ?_, ?_, ?_, by omega, by omega, ⟨fun r x0 x1 => by omega, fun n hn => ?_, fun u x0 x1 => by omega⟩, fun f x0 x1 => by omega⟩⟩
      · show (0 : Int) = _
        omega
      · show (0 : Int) = _
        omega
      · show (0 : Int) = _
        omega
      · rw [s4 n (by omega)]
        omega
    · intro c
      refine ⟨⟨⟨by omega, by omega⟩, ⟨by omega, by omega⟩⟩, fun h1 g1 g2 g3 => ?_⟩
      refine ih (zk + 1) h1 (by omega) (by omega) (by omega) ⟨g1, s2.trans (g3.wide (fun c hc => ab_swr_ok (by decide) hc)), ⟨?_, ?_, ?_, ?_, ?_, ?_⟩, fun n hn => ?_⟩
      · rw [me_f (c := 13960) g3 s1 rfl rfl, a1]
      · rw [me_f (c := 13961) g3 s1 rfl rfl, a2]
      · rw [me_f (c := 13963) g3 s1 rfl rfl, a3]
      · rw [me_f (c := 13964) g3 s1 rfl rfl, a4]
      · rw [me_f (c := 13965) g3 s1 rfl rfl, a5]
      · rw [me_f (c := 14000) g3 s1 rfl rfl, a6]
      · rw [g2]
        by_cases c2 : n = zk.toNat
        · rw [if_pos c2]
        · rw [if_neg c2]
          exact s4 n (by omega)
end REA
theorem rd_okfn : rd_Okfn := fun h hS => by
  refine mt_reA (d := 43) hS (fun h1 g1 g2 g3 g4 g5 g6 g7 g8 g9 => ?_)
  exact re37fn 28 0 h1 (by decide) (by decide) (by decide) ⟨g1, g9.wide (fun c hc => ab_swr_ok (by decide) hc), ⟨g2, g3, g5, g6, g7, g8⟩, fun n hn => by omega⟩

section CM0
variable {d : Nat} {h : sm_H}
/-- the reference's compile drops the trees -/
def mr_Vc : List (Nat × Nat) := [(13952, 13953), (13956, 14016), (14017, 14080), (14464, 19840), (21120, 21761)]
def co0_Q (h : sm_H) (w : Option mi_V) (h' : sm_H) : Prop := ab_Sh sx_sk h' ∧ ab_Fr mr_Vc h h' ∧ mi_f h' 13952 = 0 ∧ mi_f h' 14015 = 0 ∧ mi_f h' 14017 = 0 ∧ (mi_f h' 13959 = 0 → mi_f h' 13961 = 0 ∧ mi_f h' 13962 = 0)
theorem me_compile0r (hS : ab_Sh sx_sk h) : me_E 60 175 0 [some (.inr (.inr 109)), none] [] h (co0_Q h) := by
  refine mt_coA (d := 40) hS ?_
  intro h1 g1 g2 g3
  refine ⟨_, rd_okfn h1 g1, fun w h2 ow hq => ?_⟩
  obtain ⟨rfl, q1, q2, q3⟩ := hq
  have q4 : mi_f h2 13952 = mi_f h1 13952 := me_f (c := 13952) q2 g1 rfl rfl
  have F2 : ab_Fr mr_Vc h h2 := (g3.wide (fun c hc => ab_swr_ok (by decide) hc)).trans (q2.wide (fun c hc => ab_swr_ok (by decide) hc))
  refine mt_coB (d := 40) q1 ?_ ?_
  · intro b c h3 r1 r2 r3 r4 r5
    obtain ⟨Y, l1, l2⟩ := q3 c
    have hg : wk_gc (mi_a h2) (mi_a h3) := wk_gc_fr r5 q1 rfl
    have l1' : sy_L h3 Y := sy_L_fr2 l1 q1 r5 hg rfl
    refine ⟨_, me_study (d := 56) l1' r1, fun w h4 ow hq => ?_⟩
    obtain ⟨rfl, s1, s2⟩ := hq
    have l4 := sy_L_fr l1' r1 s2
    refine mt_coC (d := 40) s1 ?_
    intro h5 t1 t2
    have e := me_nil t2
    subst e
    refine ⟨_, me_check (d := 58) l4 t1, fun w h6 ow hq => ?_⟩
    obtain ⟨e, z, rfl, oz⟩ := hq
    subst e
    have c4 : mi_f h6 13952 = 0 := by rw [me_f (c := 13952) s2 r1 rfl rfl, me_f (c := 13952) r5 q1 rfl rfl, q4]; exact g2
    have n4 : mi_f h6 14015 = 0 := (me_f (c := 14015) s2 r1 rfl rfl).trans r3
    have n7 : mi_f h6 14017 = 0 := (me_f (c := 14017) s2 r1 rfl rfl).trans r4
    have fin : ∀ h7 (y : Int), y ≠ 0 → ab_Sh sx_sk h7 → mi_f h7 13959 = y → ab_Fr [(13959, 13960)] h6 h7 → co0_Q h (some (.inl z)) h7 := fun h7 y y0 u1 u2 u3 => by
      refine ⟨u1, ((F2.trans (r5.wide (fun c hc => ab_swr_ok (by decide) hc))).trans (s2.wide (fun c hc => ab_swr_ok (by decide) hc))).trans (u3.wide (fun c hc => ab_swr_ok (by decide) hc)), ?_, ?_, ?_, fun z => by rw [u2] at z; exact absurd z y0⟩
      · rw [me_f (c := 13952) u3 t1 rfl rfl, c4]
      · rw [me_f (c := 14015) u3 t1 rfl rfl, n4]
      · rw [me_f (c := 14017) u3 t1 rfl rfl, n7]
    refine mt_coD (d := 40) t1 oz ?_ ?_
    · intro c h7 u1 u2 u3
      exact fin h7 1 (by decide) u1 u2 u3
    · intro c h7 u1 u2 u3
      exact fin h7 2 (by decide) u1 u2 u3
  · intro b c h3 r1 r2 r3 r4 r5 r6 r7
    refine ⟨r1, F2.trans (r7.wide (fun c hc => ab_swr_ok (by decide) hc)), ?_, r5, r6, fun _ => ⟨r3, r4⟩⟩
    rw [me_f (c := 13952) r7 q1 rfl rfl, q4]
    exact g2
/-- the class's compile drops the trees -/
def cmf_W : List (Nat × Nat) := xc_141.2.2.2.2.1
theorem me_compile0c (hS : ab_Sh sx_sk h) : me_E (d + 33) 12 0 [some (.inr (.inr 51)), none] [] h (fun w h' => ab_Sh sx_sk h' ∧ ab_Fr cmf_W h h' ∧ mi_f h' 12032 = 0 ∧ mi_f h' 12544 = 0) := by
  refine mt_cmA hS (fun h1 g1 g2 => ?_)
  have e0 := me_nil g2
  subst e0
  refine ⟨_, mt_kdr94 (d := d + 32) (Q := fun w h' => w = none ∧ ab_Sh sx_sk h' ∧ mi_f h' 12032 = 0 ∧ ab_Fr [(12032, 12033)] h1 h') hS (fun h2 a b c => ⟨rfl, a, b, c⟩), fun w h2 oww hq => ?_⟩
  obtain ⟨rfl, a1, a2, a3⟩ := hq
  refine mt_cmB a1 (fun h3 g1 g2 => ?_)
  have e0 := me_nil g2
  subst e0
  refine ⟨_, mt_kdr98 (d := d + 32) (Q := fun w h' => w = none ∧ ab_Sh sx_sk h' ∧ mi_f h' 12544 = 0 ∧ ab_Fr [(12544, 12545)] h3 h') a1 (fun h2 a b c => ⟨rfl, a, b, c⟩), fun w h4 oww hq => ?_⟩
  obtain ⟨rfl, b1, b2, b3⟩ := hq
  have F4 : ab_Fr cmf_W h1 h4 := (a3.wide (fun c hc => ab_swr_ok (by decide) hc)).trans (b3.wide (fun c hc => ab_swr_ok (by decide) hc))
  have z4 : mi_f h4 12032 = 0 := (me_f (c := 12032) b3 a1 rfl rfl).trans a2
  refine mt_cmC b1 (fun h5 g1 g2 => ?_)
  have e0 := me_nil g2
  subst e0
  have A := me_abs (M := (3, 1, sb_14)) (as := [.inr (.inr 76)]) xo_83 rfl b1 ⟨rfl, trivial⟩ (fun e he => by cases he) (by decide)
  refine ⟨_, me_E.deep (d' := d + 32) A (by show 27 ≤ d + 32; omega), fun w h6 oww hq => ?_⟩
  obtain ⟨q1, q2, p, hp, q3, -⟩ := hq
  have ep : p = (ab_top, []) := List.mem_singleton.mp hp
  subst ep
  obtain ⟨y, rfl, y0, y1⟩ := me_resI q3 (by decide) rfl
  have oy : mi_in y := oww _ rfl
  have F6 : ab_Fr cmf_W h1 h6 := F4.trans (q2.wide (fun c hc => ab_swr_ok (by decide) hc))
  have z6 : mi_f h6 12032 = 0 ∧ mi_f h6 12544 = 0 := ⟨(me_f (c := 12032) q2 b1 rfl rfl).trans z4, (me_f (c := 12544) q2 b1 rfl rfl).trans b2⟩
  have fin : ∀ (z : Int) (h9 : sm_H), mi_in z → ab_Sh sx_sk h9 → ab_Fr cmf_W h1 h9 → mi_f h9 12032 = 0 ∧ mi_f h9 12544 = 0 → me_E (d + 33) 12 57 [some (.inr (.inr 51)), some (.inl z)] [] h9 (fun w h' => ab_Sh sx_sk h' ∧ ab_Fr cmf_W h1 h' ∧ mi_f h' 12032 = 0 ∧ mi_f h' 12544 = 0) := by
    intro z h9 oz s1 s2 s3
    have go : ∀ h10, ab_Sh sx_sk h10 → ab_Fr [(6543, 6544)] h9 h10 → ab_Sh sx_sk h10 ∧ ab_Fr cmf_W h1 h10 ∧ mi_f h10 12032 = 0 ∧ mi_f h10 12544 = 0 := fun h10 t1 t2 => ⟨t1, s2.trans (t2.wide (fun c hc => ab_swr_ok (by decide) hc)), (me_f (c := 12032) t2 s1 rfl rfl).trans s3.1, (me_f (c := 12544) t2 s1 rfl rfl).trans s3.2⟩
    refine mt_cmG s1 oz ?_ ?_
    · intro c1 h10 t1 t2 t3
      exact go h10 t1 t3
    · intro c1 h10 t1 t2 t3
      exact go h10 t1 t3
  refine mt_cmD q1 oy ?_ ?_
  · intro c1 h7 s1 s2 s3
    exact fin _ h7 oy s1 (F6.trans (s3.wide (fun c hc => ab_swr_ok (by decide) hc))) ⟨(me_f (c := 12032) s3 q1 rfl rfl).trans z6.1, (me_f (c := 12544) s3 q1 rfl rfl).trans z6.2⟩
  · intro c1 h7 s1 s2 s3
    have F7 : ab_Fr cmf_W h1 h7 := F6.trans (s3.wide (fun c hc => ab_swr_ok (by decide) hc))
    have z7 : mi_f h7 12032 = 0 ∧ mi_f h7 12544 = 0 := ⟨(me_f (c := 12032) s3 q1 rfl rfl).trans z6.1, (me_f (c := 12544) s3 q1 rfl rfl).trans z6.2⟩
    have A2 := me_abs (M := (2, 0, sb_65)) (as := [.inr (.inr 78)]) xo_129 rfl s1 ⟨rfl, trivial⟩ (fun e he => by cases he) (by decide)
    refine ⟨_, me_E.deep (d' := d + 32) A2 (by show 6 ≤ d + 32; omega), fun w h8 oww2 hq2 => ?_⟩
    obtain ⟨u1, u2, p2, hp2, u3, -⟩ := hq2
    have ew : w = none := u3
    subst ew
    have F8 : ab_Fr cmf_W h1 h8 := F7.trans (u2.wide (fun c hc => ab_swr_ok (by decide) hc))
    have z8 : mi_f h8 12032 = 0 ∧ mi_f h8 12544 = 0 := ⟨(me_f (c := 12032) u2 s1 rfl rfl).trans z7.1, (me_f (c := 12544) u2 s1 rfl rfl).trans z7.2⟩
    refine mt_cmE u1 oy (fun h9 g1 g2 => ?_)
    have e0 := me_nil g2
    subst e0
    have A3 := me_abs (M := (2, 1, sb_82)) (as := [.inr (.inr 93)]) xo_140 rfl u1 ⟨rfl, trivial⟩ (fun e he => by cases he) (by decide)
    refine ⟨_, me_E.deep (d' := d + 32) A3 (by show 3 ≤ d + 32; omega), fun w h10 oww3 hq3 => ?_⟩
    obtain ⟨v1, v2, p3, hp3, v3, -⟩ := hq3
    have ep3 : p3 = (ab_top, []) := List.mem_singleton.mp hp3
    subst ep3
    obtain ⟨y2, rfl, -, -⟩ := me_resI v3 (by decide) rfl
    have oy2 : mi_in y2 := oww3 _ rfl
    refine mt_cmF v1 oy oy2 (fun h11 g1 g2 => ?_)
    have e0 := me_nil g2
    subst e0
    exact fin _ h11 oy2 v1 (F8.trans (v2.wide (fun c hc => ab_swr_ok (by decide) hc))) ⟨(me_f (c := 12032) v2 u1 rfl rfl).trans z8.1, (me_f (c := 12544) v2 u1 rfl rfl).trans z8.2⟩
end CM0
/-! p9: what holds between the law's calls -/
def n9_all (wr : List (Nat × Nat)) (ks fs : List Nat) : Bool := ks.all (fun k => !ab_in wr (k * 128)) && fs.all (fun c => !ab_in wr c)
def n9_ks : List Nat := r9_kc ++ [53, 110, 55, 111, 57, 112, 155, 156, 157, 162, 95, 96, 97, 99, 100, 161, 164]
def n9_fs : List Nat := [6657, 13953, 6913, 13954, 7169, 13955, 6542, 6543, 13959, 7680, 13961, 7698, 13962, 14015, 12032, 12544, 14017]
set_option maxRecDepth 20000 in
theorem n9_AF : (∀ k, k ∈ n9_ks → (mx_isA sx_sk k || mx_isB sx_sk k) = true) ∧ ∀ c, c ∈ n9_fs → mx_isF sx_sk c = true := by decide +kernel
/-- rows and fields alike -/
def eq9 (ks fs : List Nat) (h h' : sm_H) : Prop := (∀ k, k ∈ ks → ∀ i, mi_a h' k i = mi_a h k i) ∧ (∀ k, k ∈ ks → ∀ i, mx_b h' k i = mx_b h k i) ∧ ∀ c, c ∈ fs → mi_f h' c = mi_f h c
theorem eq9_rq {wr : List (Nat × Nat)} {ks fs : List Nat} {h h' : sm_H} (hq : rq wr h h') (k1 : ∀ k, k ∈ ks → k ∈ n9_ks) (f1 : ∀ c, c ∈ fs → c ∈ n9_fs) (hw : n9_all wr ks fs = true) : eq9 ks fs h h' := by
  unfold n9_all at hw
  rw [Bool.and_eq_true] at hw
  have w1 : ∀ k, k ∈ ks → ab_in wr (k * 128) = false := fun k hk => by have := List.all_eq_true.mp hw.1 k hk; simpa using this
  have w2 : ∀ c, c ∈ fs → ab_in wr c = false := fun c hc => by have := List.all_eq_true.mp hw.2 c hc; simpa using this
  exact ⟨fun k hk i => hq.a (n9_AF.1 k (k1 k hk)) (w1 k hk) i, fun k hk i => hq.b (n9_AF.1 k (k1 k hk)) (w1 k hk) i, fun c hc => hq.f (n9_AF.2 c (f1 c hc)) (w2 c hc)⟩
/-! the input, the output -/
def r9_i (h : sm_H) : Prop := mi_f h 6913 = mi_f h 13954 ∧ ∀ i : Nat, (i : Int) < mi_f h 13954 → mi_a h 55 i = mi_a h 111 i ∧ tx_al (mi_a h 111 i)
def r9_o (h : sm_H) : Prop := mi_f h 7169 = mi_f h 13955 ∧ ∀ i : Nat, (i : Int) < mi_f h 13955 → mi_a h 57 i = mi_a h 112 i ∧ tx_al (mi_a h 112 i)
/-- the tree -/
def r9_T (h : sm_H) (T : List (Int × Int × Int)) : Prop := gs_T h T ∧ gc_S h T ∧ T.length ≤ 100 ∧ (T ≠ [] → mi_f h 13959 = 2 ∧ tr_R (mi_a h) (yv h) T ∧ ∀ x ∈ T, nv_ok x ∧ (x.1 % 10 = 5 → x.2.1 ≤ 161))
/-- the tree that is kept -/
def r9_p (h : sm_H) : Prop := (mi_f h 12544 = mi_f h 14017 ∧ ∀ i : Nat, (i : Int) < mi_f h 14017 → mi_a h 99 i = mi_a h 161 i ∧ mi_a h 100 i = (mx_b h 164 i).toInt) ∧ (mi_f h 13959 = 0 → mi_f h 13961 = 0 ∧ mi_f h 13962 = 0)
def R9 (h : sm_H) : Prop := rl_t h ∧ r9_i h ∧ r9_o h ∧ r9_c h ∧ (∃ T, r9_T h T) ∧ r9_p h
section E9
variable {h h' : sm_H} {T : List (Int × Int × Int)}
def k9_t : List Nat := [53, 110]
def f9_t : List Nat := [6657, 13953]
theorem rl_t_e (e : eq9 k9_t f9_t h h') (k : rl_t h) : rl_t h' := by
  obtain ⟨a, -, f⟩ := e
  have a1 : mi_a h' 53 = mi_a h 53 := funext (a 53 (by decide))
  have a2 : mi_a h' 110 = mi_a h 110 := funext (a 110 (by decide))
  unfold rl_t cx_ok at *
  rw [f 6657 (by decide), f 13953 (by decide), a1, a2]
  exact k
def k9_i : List Nat := [55, 111]
def f9_i : List Nat := [6913, 13954]
theorem r9_i_e (e : eq9 k9_i f9_i h h') (k : r9_i h) : r9_i h' := by
  obtain ⟨a, -, f⟩ := e
  unfold r9_i at *
  rw [f 6913 (by decide), f 13954 (by decide)]
  exact ⟨k.1, fun i hi => by rw [a 55 (by decide), a 111 (by decide)]; exact k.2 i hi⟩
def k9_o : List Nat := [57, 112]
def f9_o : List Nat := [7169, 13955]
theorem r9_o_e (e : eq9 k9_o f9_o h h') (k : r9_o h) : r9_o h' := by
  obtain ⟨a, -, f⟩ := e
  unfold r9_o at *
  rw [f 7169 (by decide), f 13955 (by decide)]
  exact ⟨k.1, fun i hi => by rw [a 57 (by decide), a 112 (by decide)]; exact k.2 i hi⟩
def f9_c : List Nat := [6542, 6543, 13959, 7680, 13961, 7698, 13962]
theorem r9_c_e (e : eq9 r9_kc f9_c h h') (k : r9_c h) : r9_c h' := by
  obtain ⟨a, b, f⟩ := e
  unfold r9_c at *
  rw [f 6543 (by decide), f 13959 (by decide), f 6542 (by decide), f 7680 (by decide), f 13961 (by decide), f 7698 (by decide), f 13962 (by decide)]
  obtain ⟨k1, k2, k3⟩ := k
  refine ⟨k1, fun q => ?_, k3⟩
  obtain ⟨f', it, Y, k4⟩ := k2 q
  have hsub : ∀ c, c ∈ r9_fc → c ∈ f9_c := by decide
  exact ⟨f', it, Y, r9_k_eq (fun k hk => funext (a k hk)) (fun k hk => funext (b k hk)) (fun c hc => f c (hsub c hc)) k4⟩
def k9_ss : List Nat := [155, 156, 157, 162]
theorem gs_T_e (e : eq9 k9_ss [14015] h h') (k : gs_T h T) : gs_T h' T := by
  obtain ⟨a, b, f⟩ := e
  unfold gs_T at *
  rw [f 14015 (by decide)]
  refine ⟨k.1, fun i hi => ?_, fun i j hi hj q => ?_⟩
  · have := k.2.1 i hi
    rw [a 157 (by decide), a 155 (by decide), a 156 (by decide), b 162 (by decide)]
    exact this
  · rw [a 157 (by decide), a 157 (by decide)] at q
    exact k.2.2 i j hi hj q
def k9_g : List Nat := [95, 96, 97]
theorem gc_S_e (e : eq9 k9_g [12032] h h') (k : gc_S h T) : gc_S h' T := by
  obtain ⟨a, -, f⟩ := e
  unfold gc_S gc_R at *
  rw [f 12032 (by decide)]
  refine ⟨⟨k.1.1, fun i hi => ?_⟩, k.2.1, fun i hi => ?_⟩
  · have := k.1.2 i hi
    rw [a 95 (by decide), a 96 (by decide)]
    exact this
  · rw [a 97 (by decide)]
    exact k.2.2 i hi
theorem tr_R_g {g g' : wk_g} {V : Int → Int} (hg : wk_gc g g') (k : tr_R g V T) : tr_R g' V T := by
  unfold tr_R at *
  have e0 : tr_0 g' = tr_0 g := by
    unfold tr_0
    rw [hg 114 (by decide)]
  rw [dm_st_g hg, e0]
  exact k
theorem tr_R_e (e : eq9 (162 :: wk_gk) [] h h') (k : tr_R (mi_a h) (yv h) T) : tr_R (mi_a h') (yv h') T := by
  have ey : yv h' = yv h := funext fun c => by
    unfold yv
    rw [e.2.1 162 List.mem_cons_self]
  rw [ey]
  exact tr_R_g (fun k hk i => e.1 k (List.mem_cons_of_mem _ hk) i) k
theorem eq9.sub {ks fs ks' fs' : List Nat} (e : eq9 ks fs h h') (k1 : ∀ k, k ∈ ks' → k ∈ ks) (f1 : ∀ c, c ∈ fs' → c ∈ fs) : eq9 ks' fs' h h' := ⟨fun k hk => e.1 k (k1 k hk), fun k hk => e.2.1 k (k1 k hk), fun c hc => e.2.2 c (f1 c hc)⟩
def k9_T : List Nat := [155, 156, 157, 162, 95, 96, 97, 114, 115, 119, 120, 122, 124, 125, 126, 128, 129, 130]
def f9_T : List Nat := [14015, 12032, 13959]
theorem r9_T_e (e : eq9 k9_T f9_T h h') (k : r9_T h T) : r9_T h' T := by
  obtain ⟨k1, k2, k3, k4⟩ := k
  refine ⟨gs_T_e (e.sub (by decide) (by decide)) k1, gc_S_e (e.sub (by decide) (by decide)) k2, k3, fun q => ?_⟩
  obtain ⟨k5, k6, k7⟩ := k4 q
  exact ⟨by rw [e.2.2 13959 (by decide)]; exact k5, tr_R_e (e.sub (by decide) (by decide)) k6, k7⟩
def k9_p : List Nat := [99, 100, 161, 164]
def f9_p : List Nat := [12544, 14017, 13959, 13961, 13962]
theorem r9_p_e (e : eq9 k9_p f9_p h h') (k : r9_p h) : r9_p h' := by
  obtain ⟨a, b, f⟩ := e
  unfold r9_p at *
  rw [f 12544 (by decide), f 14017 (by decide), f 13959 (by decide), f 13961 (by decide), f 13962 (by decide)]
  exact ⟨⟨k.1.1, fun i hi => by rw [a 99 (by decide), a 100 (by decide), a 161 (by decide), b 164 (by decide)]; exact k.1.2 i hi⟩, k.2⟩
end E9
theorem s9_t : (∀ k, k ∈ k9_t → k ∈ n9_ks) ∧ ∀ c, c ∈ f9_t → c ∈ n9_fs := by decide
theorem s9_i : (∀ k, k ∈ k9_i → k ∈ n9_ks) ∧ ∀ c, c ∈ f9_i → c ∈ n9_fs := by decide
theorem s9_o : (∀ k, k ∈ k9_o → k ∈ n9_ks) ∧ ∀ c, c ∈ f9_o → c ∈ n9_fs := by decide
theorem s9_c : (∀ k, k ∈ r9_kc → k ∈ n9_ks) ∧ ∀ c, c ∈ f9_c → c ∈ n9_fs := by decide
theorem s9_T : (∀ k, k ∈ k9_T → k ∈ n9_ks) ∧ ∀ c, c ∈ f9_T → c ∈ n9_fs := by decide
theorem s9_p : (∀ k, k ∈ k9_p → k ∈ n9_ks) ∧ ∀ c, c ∈ f9_p → c ∈ n9_fs := by decide
section W9
variable {wr : List (Nat × Nat)} {h h' : sm_H} {T : List (Int × Int × Int)}
theorem rl_t_q (q : rq wr h h') (hw : n9_all wr k9_t f9_t = true) (k : rl_t h) : rl_t h' := rl_t_e (eq9_rq q s9_t.1 s9_t.2 hw) k
theorem r9_i_q (q : rq wr h h') (hw : n9_all wr k9_i f9_i = true) (k : r9_i h) : r9_i h' := r9_i_e (eq9_rq q s9_i.1 s9_i.2 hw) k
theorem r9_o_q (q : rq wr h h') (hw : n9_all wr k9_o f9_o = true) (k : r9_o h) : r9_o h' := r9_o_e (eq9_rq q s9_o.1 s9_o.2 hw) k
theorem r9_c_q (q : rq wr h h') (hw : n9_all wr r9_kc f9_c = true) (k : r9_c h) : r9_c h' := r9_c_e (eq9_rq q s9_c.1 s9_c.2 hw) k
theorem r9_T_q (q : rq wr h h') (hw : n9_all wr k9_T f9_T = true) (k : r9_T h T) : r9_T h' T := r9_T_e (eq9_rq q s9_T.1 s9_T.2 hw) k
theorem r9_p_q (q : rq wr h h') (hw : n9_all wr k9_p f9_p = true) (k : r9_p h) : r9_p h' := r9_p_e (eq9_rq q s9_p.1 s9_p.2 hw) k
def n9_no (wr : List (Nat × Nat)) : Bool := n9_all wr k9_t f9_t && (n9_all wr k9_i f9_i && (n9_all wr k9_o f9_o && (n9_all wr r9_kc f9_c && (n9_all wr k9_T f9_T && n9_all wr k9_p f9_p))))
theorem R9_q (q : rq wr h h') (hw : n9_no wr = true) (k : R9 h) : R9 h' := by
  unfold n9_no at hw
  simp only [Bool.and_eq_true] at hw
  obtain ⟨w1, w2, w3, w4, w5, w6⟩ := hw
  obtain ⟨k1, k2, k3, k4, ⟨T, k5⟩, k6⟩ := k
  exact ⟨rl_t_q q w1 k1, r9_i_q q w2 k2, r9_o_q q w3 k3, r9_c_q q w4 k4, ⟨T, r9_T_q q w5 k5⟩, r9_p_q q w6 k6⟩
end W9
/-- what holds between the law's calls -/
def M9 (h : sm_H) : Prop := MJ h ∧ ab_Sh sx_sk h ∧ R9 h
section LJ9
variable {L : Nat} {xs : Nat → Int32} {wr : List (Nat × Nat)} {h g : sm_H}
theorem l9_fr (hJ : lj_J M9 L xs h) (hS' : ab_Sh sx_sk g) (hw : (ab_sub_wr wr mj_wr && n9_no wr) = true) (hF : ab_Fr wr h g) : lj_J M9 L xs g := by
  rw [Bool.and_eq_true] at hw
  obtain ⟨j1, j2, j3⟩ := lj_fr (MJ := MJ) mj_MJ ⟨hJ.1.1, hJ.2⟩ hw.1 hF
  exact ⟨⟨j1, hS', R9_q (rq_fr hJ.1.2.1 hF) hw.2 hJ.1.2.2⟩, j2, j3⟩
theorem l9_app {e : sm_E} (hJ : lj_J M9 L xs h) : lj_J M9 L xs (h ++ [e]) := by
  obtain ⟨⟨j1, j2, j3⟩, j4, j5⟩ := hJ
  have hl := xs_len
  refine ⟨⟨mj_MJ.2 h e j4 j1, lj_app (by omega) j2, R9_q (rq_app j4) (by decide) j3⟩, by rw [List.length_append]; omega, ?_⟩
  rw [List.getElem?_append_left (by omega)]
  exact j5
theorem l9_P {c : ab_C} (hok : ab_Ok sc_P sx_sk c) (hpre : c.2.2.1 = []) (hw : (ab_sub_wr c.2.2.2.2.1 mj_wr && n9_no c.2.2.2.2.1) = true) : lb_OkP sc_P sx_sk (lj_J M9 L xs) c := by
  intro h as M hM hSh hJ has
  refine (hok h as M hM hSh has (by rw [hpre]; exact fun e he => absurd he List.not_mem_nil)).imp fun v h' hp => ?_
  obtain ⟨p1, p2, p, pm, pr, -⟩ := hp
  exact ⟨p1, l9_fr hJ p1 hw p2, p2.1, p2.2.1, p, pm, pr⟩
theorem l9_W {env : List (List Nat × ab_C)} {m d fuel : Nat} {args posts : List ab_V} (henv : ∀ e ∈ env, ab_OkX sc_P sx_sk e.1 e.2) (hg : wb_good sc_P sc_PW sx_sk wr env m d fuel args posts = true) (hw : (ab_sub_wr wr mj_wr && n9_no wr) = true) : lb_OkW sc_P sc_PW sx_sk (lj_J M9 L xs) (m, args, posts, d) := by
  intro h as M hM hSh hJ has
  obtain ⟨g1, n, v, h', hr, g, e1, e2, e3, p, pm, pr⟩ := wb_good_ok hg henv hM hSh has
  refine ⟨g1, n, v, h', hr, ?_⟩
  have hJg := l9_fr hJ e1 hw e2
  have hgl := hJg.2.1
  have hl := xs_len
  rcases e3 with rfl | ⟨x, rfl⟩
  · exact ⟨e1, hJg, by rw [e2.1]; omega, by rw [e2.2.1]; omega, p, pm, pr⟩
  · refine ⟨lj_app (by omega) e1, l9_app hJg, by rw [List.length_append, e2.1]; exact Nat.le_refl _, ?_, p, pm, pr⟩
    rw [sm_sl_app, e2.2.1]
    exact Nat.le_refl _
end LJ9
/-! p9: what the walks ask for, out of the relation -/
/-- kinds and values of tokens -/
theorem tq_kv {n : Int} {c : Nat → Int} {m : Int} {L : Nat → Int} {a k v s e : Int} (hm : m ≤ 20) (h : tq_T n c m L a k v s e) : k < 64 ∧ (k = 2 → 0 < v ∧ lgd 6 v) := by
  obtain ⟨-, h⟩ := h
  have fz : ∀ x z, fx m L x z → z < 20 := fun x z hz => by
    rcases hz with ⟨z0, z1, -⟩ | ⟨z0, -⟩ <;> omega
  rcases h with ⟨-, k0, -⟩ | ⟨hsn, h⟩
  · exact ⟨by omega, fun q => by omega⟩
  · rcases h with ⟨-, -, h⟩ | ⟨hlow, he, h⟩ | ⟨-, -, -, z, hz, k0⟩
    · rcases h with ⟨-, k0, -⟩ | ⟨-, k0⟩
      · exact ⟨by omega, fun q => by omega⟩
      · exact ⟨by omega, fun q => by omega⟩
    · rcases h with ⟨e6, hv, z, hz, k0⟩ | ⟨-, k0⟩
      · have z1 := fz _ _ hz
        have low : ∀ j, s ≤ j → j < s + ((e - s).toNat : Int) → tx_low (c j.toNat) := fun j j0 j1 => (he.2.1 j j0 (by omega)).2
        refine ⟨by split at k0 <;> omega, fun q => ?_⟩
        have hs := he.1
        have ne : s ≠ e := fun q2 => he.2.2 (by rw [← q2]; exact ⟨hsn, hlow⟩)
        rw [hv]
        exact ⟨tx_code_p (by omega) low, lgd_up _ 6 _ (by omega) (tx_code_l _ _ low)⟩
      · exact ⟨by omega, fun q => by omega⟩
    · have z1 := fz _ _ hz
      refine ⟨by split at k0 <;> omega, fun q => ?_⟩
      split at k0 <;> omega
theorem tq_S_V {n : Int} {c : Nat → Int} {m : Int} {L : Nat → Int} {E : pm_E} {p : Int → Int} {N : Int} (hm : m ≤ 20) (h : tq_S n c m L E.1 E.2.1 p N) : pq_V E N ∧ mv_E E N := by
  obtain ⟨-, h2, h3, -⟩ := h
  refine ⟨fun j j0 j1 => ?_, h3, fun j j0 j1 q => ?_⟩
  · obtain ⟨-, -, s, hs⟩ := h2 j j0 j1
    exact ⟨(tq_kv hm hs).1, fun q => tq_v hs q⟩
  · obtain ⟨-, -, s, hs⟩ := h2 j j0 j1
    exact (tq_kv hm hs).2 q
theorem tq_S_c {n : Int} {c c' : Nat → Int} {m : Int} {L L' : Nat → Int} {K V p : Int → Int} {N : Int} (hc : ∀ i : Nat, (i : Int) < n → c' i = c i) (hL : ∀ l : Nat, (l : Int) < m → L' l = L l) (h : tq_S n c m L K V p N) : tq_S n c' m L' K V p N := by
  obtain ⟨h1, h2, h3, h4⟩ := h
  refine ⟨h1, fun j j0 j1 => ?_, h3, h4⟩
  obtain ⟨a, b, s, hs⟩ := h2 j j0 j1
  exact ⟨a, b, s, tq_T_c a hc hL hs⟩
section PR9
variable {h : sm_H} {f : Int → Int} {it : Int → Prop} {Y : wk_Y} {T : List (Int × Int × Int)}
theorem lt_O (h1 : lt_ok h) : tq_O h := fun l hl => ⟨(h1.2.2 l hl).2.2.2.1, (h1.2.2 l hl).2.2.2.2⟩
theorem prG_of (hk : r9_k h f it Y) (hi : r9_i h) : pr_G h := by
  obtain ⟨⟨g1, g2, -⟩, g3, -, ⟨pf, pa, g5⟩, g6, -, g8⟩ := hk
  refine ⟨Y, pf, pa, g1.1, g2, g6, g5 _ rfl, fun u u0 u1 q => ?_, lt_O g8, fun i i1 => ?_⟩
  · obtain ⟨-, a, b⟩ := (g3.1 u u0 u1).1 q
    exact ⟨a, b⟩
  · have := (hi.2 i i1).2
    unfold tx_al at this
    omega
theorem pcH_of (hk : r9_k h f it Y) (hi : r9_i h) {E : pm_E} {p : Int → Int} {N : Int} (eE : E.2.2 = (px_E h).2.2) (hN : N ≤ 160) (hq : tq_S (mi_f h 13954) (mi_a h 111) (mi_f h 13962) (tq_L h) E.1 E.2.1 p N) : pc_H h (mi_a h) E := by
  obtain ⟨⟨g1, g2, g2'⟩, -, g4, ⟨pf, pa, g5⟩, g6, -, g8⟩ := hk
  have hv := tq_S_V g8.2.1 hq
  refine ⟨p, N, f, it, Y, gx_k h, pf, pa, pq_tok_of (by rw [g8.1]; exact g8.2.1) ?_, ⟨hq.2.2.2, hN, hq.2.2.1⟩, hq.1, hv.1, g5 E eE, ⟨g1, g4 E eE, ⟨rfl, fun _ => rfl, rfl, fun _ => rfl⟩⟩, g2, g2'⟩
  rw [hi.1, g8.1]
  exact tq_S_c (fun i i1 => (hi.2 i i1).1) (fun l l1 => (g8.2.2 l l1).1) hq
/-- tokens there are -/
theorem tok_ex (hS : ab_Sh sx_sk h) (h2 : mi_f h 13959 = 2) (hk : r9_k h f it Y) (hi : r9_i h) : ∃ (E : pm_E) (p : Int → Int) (N : Int), E.2.2 = (px_E h).2.2 ∧ N ≤ 160 ∧ tq_S (mi_f h 13954) (mi_a h 111) (mi_f h 13962) (tq_L h) E.1 E.2.1 p N := by
  obtain ⟨n, v, h', -, w, -, -, hq⟩ := me_parsex (d := 0) hS (fun _ => prG_of hk hi)
  obtain ⟨E, p, N, e1, e2, e3, -⟩ := hq.2 (by omega)
  exact ⟨E, p, N, e1, e2, e3⟩
/-- values of the replay -/
theorem gs_vo (hT : gs_T h T) : ∀ x ∈ T, yv h (x.1 / 10) = x.2.1 := by
  intro x hx
  obtain ⟨k, hk⟩ := List.getElem?_of_mem hx
  have kl : k < T.length := by
    by_cases q : k < T.length
    · exact q
    · rw [List.getElem?_eq_none (by omega)] at hk
      cases hk
  obtain ⟨a, b, c, d1, d2⟩ := hT.2.1 k kl
  rw [hk] at c
  have c := Option.some.inj c
  rw [c]
  unfold yv
  have e : (mi_a h 155 (mi_a h 157 k).toNat + 10 * mi_a h 157 k) / 10 = mi_a h 157 k := by omega
  show (mx_b h 162 ((mi_a h 155 (mi_a h 157 k).toNat + 10 * mi_a h 157 k) / 10).toNat).toInt = _
  rw [e]
end PR9
/-! p9: both calls together: the relation stays -/
section PAI
variable {h h1 h2 : sm_H} {w : Option mi_V} {wr : List (Nat × Nat)} {T : List (Int × Int × Int)}
theorem rq_gc (q : rq wr h h1) (hw : n9_all wr r9_kc [] = true) : wk_gc (mi_a h) (mi_a h1) := by
  have e := eq9_rq q s9_c.1 (fun c hc => absurd hc List.not_mem_nil) hw
  have hsub : ∀ k, k ∈ wk_gk → k ∈ r9_kc := by decide
  exact fun k hk i => e.1 k (hsub k hk) i
theorem rq_k (q : rq wr h h1) (hw : n9_all wr r9_kc [7698, 13962] = true) {f : Int → Int} {it : Int → Prop} {Y : wk_Y} (k : r9_k h f it Y) : r9_k h1 f it Y := by
  have e := eq9_rq q s9_c.1 (by decide) hw
  exact r9_k_eq (fun k hk => funext (e.1 k hk)) (fun k hk => funext (e.2.1 k hk)) (fun c hc => e.2.2 c hc) k
/-- what the class's parse leaves -/
def xp_N : List (Nat × Nat) := pq_W ++ xq_W
def xp_Y : List (Nat × Nat) := pcr_W ++ xq_W
def XP (h : sm_H) (k : Int) (h1 : sm_H) : Prop := rq xp_Y h h1 ∧ ((mi_f h 6543 = 0 ∧ k = 1 ∧ rq xp_N h h1) ∨ (mi_f h 6543 ≠ 0 ∧ ∀ E, pc_H h (mi_a h) E → ((pm_NO (mi_a h) E (pc_0 (mi_a h) 0) ∧ rq xp_N h h1) ∨ ∃ s', pm_RO (mi_a h) E (pc_0 (mi_a h) 0) ([], s') ∧ pm_K E s' = 0 ∧ (gm_T s').length ≤ 100 ∧ gc_S h1 (gm_T s'))))
def yp_N : List (Nat × Nat) := xp_N ++ pr_N
def yp_Y : List (Nat × Nat) := xp_Y ++ pr_Y
set_option maxRecDepth 4000 in
theorem P9_parse {k : Int} (hR : R9 h) (hS1 : ab_Sh sx_sk h1) (hX : XP h k h1) (hX2 : pr_X h1 w h2) : R9 h2 := by
  obtain ⟨k1, k2, k3, k4, ⟨T, k5⟩, k6⟩ := hR
  obtain ⟨qY, hX⟩ := hX
  have e59 : mi_f h1 13959 = mi_f h 13959 := qY.f rfl (by decide)
  have noch : rq xp_N h h1 → ab_Fr pr_N h1 h2 → R9 h2 := fun a b => by
    have q : rq yp_N h h2 := (a.wide (by decide)).trans ((rq_fr hS1 b).wide (by decide))
    exact R9_q q (by decide) ⟨k1, k2, k3, k4, ⟨T, k5⟩, k6⟩
  rcases hX with ⟨x1, -, x3⟩ | ⟨x1, x2⟩
  · refine noch x3 (hX2.1 ?_)
    have : mi_f h 13959 ≠ 2 := fun q => (k4.1.mpr q) x1
    have := k4.2.2.1
    omega
  · have st2 := k4.1.mp x1
    obtain ⟨f, it, Y, hk⟩ := k4.2.1 st2
    obtain ⟨E, p, N, eE, hN, hq, hc⟩ := hX2.2 (by omega)
    have e9 := eq9_rq qY s9_c.1 s9_c.2 (by decide)
    have eE2 : E.2.2 = (px_E h).2.2 := by
      rw [eE]
      unfold px_E
      simp only [e9.2.1 134 (by decide), e9.1 132 (by decide), e9.2.1 135 (by decide), e9.2.1 138 (by decide)]
    have eL : tq_L h1 = tq_L h := funext fun l => by
      unfold tq_L
      rw [e9.2.1 118 (by decide), e9.1 117 (by decide)]
    have a11 : mi_a h1 111 = mi_a h 111 := funext fun i => qY.a rfl (by decide) i
    have f54 : mi_f h1 13954 = mi_f h 13954 := qY.f rfl (by decide)
    rw [f54, a11, e9.2.2 13962 (by decide), eL] at hq
    have hpc := pcH_of hk k2 eE2 hN hq
    have hg : wk_gc (mi_a h) (mi_a h1) := rq_gc qY (by decide)
    rcases x2 E hpc with ⟨c1, c2⟩ | ⟨s', c1, c2, c3, c4⟩
    · rcases hc with ⟨-, d2⟩ | ⟨-, s'', d1, d2, -⟩
      · exact noch c2 d2
      · exact (pm_x_NO (pm_RO_g hg d1) d2 c1).elim
    · rcases hc with ⟨d1, -⟩ | ⟨F2, s'', d1, d2, -, d4, d5⟩
      · exact (pm_x_NO c1 c2 (pm_NO_g hg d1)).elim
      · have es := pm_RO_u c1 (pm_RO_g hg d1)
        subst es
        have q2 := rq_fr hS1 F2
        have q : rq yp_Y h h2 := (qY.wide (by decide)).trans (q2.wide (by decide))
        obtain ⟨⟨g1, g2, -⟩, -, -, ⟨pf, pa, g5⟩, g6, -, g8⟩ := hk
        have hv := tq_S_V g8.2.1 hq
        have mv := mv_parse g1.1 (g5 E eE2) hv.2 hq.2.2.2 g2 c1
        refine ⟨rl_t_q q (by decide) k1, r9_i_q q (by decide) k2, r9_o_q q (by decide) k3, r9_c_q q (by decide) k4, ⟨gm_T s'', d5, gc_S_e (eq9_rq q2 (by decide) (by decide) (by decide)) c4, d4, fun _ => ⟨?_, ?_, fun x hx => ⟨(mv.2 x hx).1, fun q5 => ?_⟩⟩⟩, r9_p_q q (by decide) k6⟩
        · rw [q.f (c := 13959) rfl (by decide)]
          exact st2
        · have vo2 : vo (yv h2) s'' := gs_vo d5
          have tr := tr_parse (V := yv h2) g1.1 g6 (g5 E eE2) g2 (show gm_len s'' ≤ 100 by unfold gm_len; omega) (by have := mv.1; omega) vo2 c1
          exact tr_R_g (rq_gc q (by decide)) tr
        · have := (mv.2 x hx).2 q5
          have := mv.1
          omega
/-- what the class's grow leaves -/
def xg_N : List (Nat × Nat) := gcn_W ++ xq_W
def xg_Y : List (Nat × Nat) := gc_W ++ xq_W
def XG (h : sm_H) (zx : Int64) (zf : Int) (k : Int) (h1 : sm_H) : Prop := rq xg_Y h h1 ∧ ((k = 1 ∧ (zf < 0 ∨ 20 < zf) ∧ rq xg_N h h1) ∨ (k = 2 ∧ (0 ≤ zf ∧ zf ≤ 20) ∧ mi_f h 6543 = 0 ∧ rq xg_N h h1) ∨ (k = 3 ∧ (0 ≤ zf ∧ zf ≤ 20) ∧ mi_f h 6543 ≠ 0 ∧ gm_NO (mi_a h) (gx_k h) (gc_0 (mi_a h) zx zf) ∧ rq xg_N h h1) ∨ (k = 0 ∧ (0 ≤ zf ∧ zf ≤ 20) ∧ mi_f h 6543 ≠ 0 ∧ ∃ s', gm_RO (mi_a h) (gx_k h) (gc_0 (mi_a h) zx zf) ([], s') ∧ (gm_T s').length ≤ 100 ∧ gc_S h1 (gm_T s')))
def yg_N : List (Nat × Nat) := xg_N ++ pr_N
def yg_Y : List (Nat × Nat) := xg_Y ++ pr_Y
set_option maxRecDepth 4000 in
theorem P9_grow {zx : Int64} {zf k : Int} (hR : R9 h) (hS1 : ab_Sh sx_sk h1) (hX : XG h zx zf k h1) (hX2 : gr_X h1 zx zf w h2) (hF : ab_Fr pr_Y h1 h2 ∧ (mi_f h2 13952 ≠ 0 → ab_Fr pr_N h1 h2)) : R9 h2 := by
  obtain ⟨k1, k2, k3, k4, ⟨T, k5⟩, k6⟩ := hR
  obtain ⟨qY, hX⟩ := hX
  have e59 : mi_f h1 13959 = mi_f h 13959 := qY.f rfl (by decide)
  have noch : rq xg_N h h1 → mi_f h2 13952 ≠ 0 → R9 h2 := fun a b => by
    have q : rq yg_N h h2 := (a.wide (by decide)).trans ((rq_fr hS1 (hF.2 b)).wide (by decide))
    exact R9_q q (by decide) ⟨k1, k2, k3, k4, ⟨T, k5⟩, k6⟩
  obtain ⟨y1, y2, y3⟩ := hX2
  have e9 := eq9_rq qY s9_c.1 s9_c.2 (by decide)
  have hg : wk_gc (mi_a h) (mi_a h1) := rq_gc qY (by decide)
  have hk1 : gx_k h1 = gx_k h := by
    unfold gx_k
    rw [e9.2.2 13962 (by decide), show mx_b h1 118 = mx_b h 118 from funext fun i => e9.2.1 118 (by decide) i]
  have h143 : ∀ i, mi_a h1 143 i = mi_a h 143 i := fun i => e9.1 143 (by decide) i
  rcases hX with ⟨-, x1, x2⟩ | ⟨-, x1, x2, x3⟩ | ⟨-, x1, x2, x3, x4⟩ | ⟨-, x1, x2, s', x3, x4, x5⟩
  · exact noch x2 (by rw [y1 x1]; decide)
  · have : mi_f h 13959 ≠ 2 := fun q => (k4.1.mpr q) x2
    have b := k4.2.2.1
    exact noch x3 (by rw [y2 x1.1 x1.2 (by omega)]; decide)
  · have st2 := k4.1.mp x2
    rcases y3 x1.1 x1.2 (by omega) with ⟨-, c⟩ | ⟨n, s'', z1, -⟩
    · exact noch x4 (by rw [c]; decide)
    · exfalso
      rw [gr9_c0 hg] at z1
      have z1 := gm_to_g hg h143 _ _ z1
      rw [hk1] at z1
      exact g9_not ⟨_, n, gc9_0 _ _ _, z1⟩ x3
  · have st2 := k4.1.mp x2
    rcases y3 x1.1 x1.2 (by omega) with ⟨⟨n, z1⟩, -⟩ | ⟨n, s'', z1, -, -, z4⟩
    · exfalso
      rw [gr9_c0 hg] at z1
      have z1 := gm_no_g hg h143 _ _ z1
      rw [hk1] at z1
      exact g9_not x3 (Or.inr ⟨_, n, gc9_0 _ _ _, z1⟩)
    · rw [gr9_c0 hg] at z1
      have z1 := gm_to_g hg h143 _ _ z1
      rw [hk1] at z1
      have es := g9_det (⟨_, n, gc9_0 _ _ _, z1⟩ : gm_RO (mi_a h) (gx_k h) (gc_0 (mi_a h) zx zf) ([], s'')) x3
      subst es
      obtain ⟨f, it, Y, hk⟩ := k4.2.1 st2
      obtain ⟨⟨g1, g2, -⟩, -⟩ := hk
      have q2 := rq_fr hS1 hF.1
      have q : rq yg_Y h h2 := (qY.wide (by decide)).trans (q2.wide (by decide))
      have gv := gvk_grow g1.2.2.2.2.2 z1
      refine ⟨rl_t_q q (by decide) k1, r9_i_q q (by decide) k2, r9_o_q q (by decide) k3, r9_c_q q (by decide) k4, ⟨gm_T s'', z4, gc_S_e (eq9_rq q2 (by decide) (by decide) (by decide)) x5, x4, fun _ => ⟨?_, ?_, fun x hx => ⟨(gv x hx).1, fun q5 => ?_⟩⟩⟩, r9_p_q q (by decide) k6⟩
      · rw [q.f (c := 13959) rfl (by decide)]
        exact st2
      · have vo2 : vo (yv h2) s'' := gs_vo z4
        have tr := tr_grow (V := yv h2) g1.1 (fun F F0 F1 => Int.le_trans (g1.2.1 F F0 F1).2.2.2.1 (by decide)) g2 (show gm_len s'' ≤ 100 by unfold gm_len; omega) vo2 z1
        exact tr_R_g (rq_gc q (by decide)) tr
      · have := (gv x hx).2 q5
        omega
/-- print -/
def xr_N : List (Nat × Nat) := wr_pv ++ xq_W
def xr_Y : List (Nat × Nat) := wr_pz ++ xq_W
def XR (h : sm_H) (R : Option ox) (k : Int) (h1 : sm_H) : Prop := rq xr_Y h h1 ∧ ((k = 1 ∧ mi_f h 12032 = 0 ∧ rq xr_N h h1) ∨ (k = 2 ∧ mi_f h 12032 ≠ 0 ∧ R = none ∧ rq xr_N h h1) ∨ (k = 0 ∧ mi_f h 12032 ≠ 0 ∧ ∃ o, R = some o ∧ mi_f h1 7169 = (o.1.length : Int) ∧ (∀ j : Nat, j < o.1.length → o.1[j]? = some (mi_a h1 57 j)) ∧ ∀ c ∈ o.1, tx_alc c))
def yr_N : List (Nat × Nat) := xr_N ++ prx_N
def yr_Y : List (Nat × Nat) := xr_Y ++ prx_Y
theorem P9_print {R : Option ox} {k : Int} (hR : R9 h) (hS1 : ab_Sh sx_sk h1) (hX : XR h R k h1) (hX2 : prx_X h1 R w h2) : R9 h2 ∧ mi_f h2 13952 = k ∧ (k = 0 → ∃ o, R = some o ∧ w = some (.inl (o.1.length : Int))) := by
  obtain ⟨k1, k2, k3, k4, ⟨T, k5⟩, k6⟩ := hR
  obtain ⟨qY, hX⟩ := hX
  obtain ⟨-, y1, y2⟩ := hX2
  have e15 : mi_f h1 14015 = mi_f h 14015 := qY.f rfl (by decide)
  have e32 : mi_f h 12032 = mi_f h 14015 := by rw [k5.2.1.1.1, k5.1.1]
  have noch : rq xr_N h h1 → ab_Fr prx_N h1 h2 → R9 h2 := fun a b => by
    have q : rq yr_N h h2 := (a.wide (by decide)).trans ((rq_fr hS1 b).wide (by decide))
    exact R9_q q (by decide) ⟨k1, k2, k3, k4, ⟨T, k5⟩, k6⟩
  rcases hX with ⟨rfl, x1, x2⟩ | ⟨rfl, x1, x2, x3⟩ | ⟨rfl, x1, o, x2, x3, x4, x5⟩
  · obtain ⟨z1, z2⟩ := y1 (by omega)
    exact ⟨noch x2 z2, z1, fun q => absurd q (by decide)⟩
  · rcases y2 (by omega) with ⟨-, z1, z2⟩ | ⟨o, z1, -⟩
    · exact ⟨noch x3 z2, z1, fun q => absurd q (by decide)⟩
    · rw [x2] at z1; cases z1
  · rcases y2 (by omega) with ⟨z1, -⟩ | ⟨o', z1, z2, z3, z4, z5, z6, z7⟩
    · rw [x2] at z1; cases z1
    · rw [x2] at z1
      have eo := Option.some.inj z1
      subst eo
      have q2 := rq_fr hS1 z7
      have q : rq yr_Y h h2 := (qY.wide (by decide)).trans (q2.wide (by decide))
      refine ⟨⟨rl_t_q q (by decide) k1, r9_i_q q (by decide) k2, ⟨?_, fun i hi => ?_⟩, r9_c_q q (by decide) k4, ⟨T, r9_T_q q (by decide) k5⟩, r9_p_q q (by decide) k6⟩, z2, fun _ => ⟨o, x2, z3⟩⟩
      · rw [q2.f (c := 7169) rfl (by decide), x3, z4]
      · have hi2 : i < o.1.length := by omega
        have a := z6 i hi2
        have b := x4 i hi2
        rw [a] at b
        have ab := Option.some.inj b
        refine ⟨by rw [q2.a (k := 57) rfl (by decide)]; exact ab.symm, ?_⟩
        exact x5 _ (List.mem_of_getElem? a)
end PAI
