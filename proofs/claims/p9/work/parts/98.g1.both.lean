/-! .. and what is kept of them between calls -/
def r8_kc : List Nat := [63, 64, 65, 66, 68, 69, 71, 72, 74, 75, 87, 114, 115, 118, 119, 120, 122, 124, 125, 126, 128, 129, 130, 143]
def r8_fc : List Nat := [6543, 7698, 13959, 13962]
def r8_ks : List Nat := [53, 63, 64, 65, 66, 68, 69, 71, 72, 74, 75, 87, 110, 114, 115, 118, 119, 120, 122, 124, 125, 126, 128, 129, 130, 143]
def r8_fs : List Nat := [6543, 6657, 7698, 13953, 13959, 13962]
def r8_no (wr : List (Nat × Nat)) : Bool := r8_ks.all (fun k => !ab_in wr (k * 128)) && r8_fs.all (fun c => !ab_in wr c)
section SG1
variable {f : Int → Int} {it : Int → Prop} {Y : wk_Y} {h h' : sm_H}
theorem cg_G_eq (ha : ∀ k, k ∈ r8_kc → mi_a h' k = mi_a h k) (f98 : mi_f h' 7698 = mi_f h 7698) (hk : gx_k h' = gx_k h) (hG : cg_G f it (mi_a h) Y (gx_k h) h) : cg_G f it (mi_a h') Y (gx_k h') h' := by
  have hsub : ∀ k, k ∈ wk_gk → k ∈ r8_kc := by decide
  have hg : wk_gc (mi_a h) (mi_a h') := fun k hk i => by rw [ha k (hsub k hk)]
  obtain ⟨g1, g2, g3, g4, g5, g6⟩ := hG
  refine ⟨wk_L_g g1 hg, fun F F0 F1 => ?_, fun u u0 u1 => ?_, by rw [f98]; exact g4, fun c c0 c1 => ?_, fun c hc => g6 c (by rw [← hk]; exact hc)⟩
  · have := g2 F F0 F1
    unfold cg_F at this ⊢
    simp only [wk_alt_g hg, ha 63 (by decide), ha 64 (by decide), ha 65 (by decide), ha 66 (by decide), ha 87 (by decide), ha 126 (by decide), ha 128 (by decide), ha 129 (by decide), ha 130 (by decide), ha 143 (by decide)]
    exact this
  · have := g3 u u0 u1
    unfold cg_U at this ⊢
    simp only [wk_rf_g hg, ha 68 (by decide), ha 69 (by decide), ha 71 (by decide), ha 72 (by decide), ha 74 (by decide), ha 115 (by decide), ha 119 (by decide), ha 120 (by decide), ha 122 (by decide), ha 124 (by decide), ha 125 (by decide)]
    exact this
  · rw [hk, f98, ha 75 (by decide)]
    exact g5 c c0 c1
theorem r8_c_eq (ha : ∀ k, k ∈ r8_kc → h'[k]? = h[k]?) (hf : ∀ c, c ∈ r8_fc → ab_fld h' c = ab_fld h c) (k : r8_c h) : r8_c h' := by
  have a : ∀ k, k ∈ r8_kc → mi_a h' k = mi_a h k := fun k hk => funext fun i => by
    unfold mi_a mx_a
    rw [ha k hk]
  have b : mx_b h' 118 = mx_b h 118 := funext fun i => by
    unfold mx_b
    rw [ha 118 (by decide)]
  have fe : ∀ c, c ∈ r8_fc → mi_f h' c = mi_f h c := fun c hc => by
    unfold mi_f mx_i
    rw [hf c hc]
  have hk : gx_k h' = gx_k h := by
    unfold gx_k
    rw [b, fe 13962 (by decide)]
  unfold r8_c at k ⊢
  rw [fe 6543 (by decide), fe 13959 (by decide), a 114 (by decide)]
  refine ⟨k.1, fun q => ?_, k.2.2⟩
  obtain ⟨f, it, Y, k1, k2, k3⟩ := k.2.1 q
  exact ⟨f, it, Y, cg_G_eq a (fe 7698 (by decide)) hk k1, k2, k3⟩
end SG1
/-- after both have compiled -/
theorem r8_both {n : Int} {c : Nat → Int} {g1 g2 : wk_g} {h1 h2 : sm_H} {y : Int} (hS1 : ab_Sh sx_sk h1) (hF : ab_Fr mr_W h1 h2) (hG1 : cm_G n c g1 h1) (hC1 : cm_5 n c g1 (some (.inl y)) h1) (hco : co_G n c g1 h2) (hG2 : cm_G n c g2 h1) (hC2 : cm_5 n c g2 (some (.inl y)) h1) (hr : rz_B n c g2 y ∨ ∃ g, rz_D n c g2 g ∧ rz_U g ∧ co_R h1 h2 g y) : r8_c h2 := by
  have e43 : mi_f h2 6543 = mi_f h1 6543 := me_f (c := 6543) hF hS1 rfl rfl
  obtain ⟨y1, ey1, -, a43, hC1⟩ := hC1
  have ey1 : y1 = y := by injection ey1 with q; injection q with q; exact q.symm
  subst ey1
  obtain ⟨y2, ey2, -, -, hC2⟩ := hC2
  have ey2 : y2 = y1 := by injection ey2 with q; injection q with q; exact q.symm
  subst ey2
  rcases hC1 with ⟨a1, a2⟩ | ⟨f, ow, g, hb, k1, k2, -⟩
  · rw [if_neg a2] at a43
    rcases hco with ⟨b1, -⟩ | ⟨-, -, g, Y, b2, b3, -⟩
    · exact ⟨⟨fun q => absurd (e43.trans a43) q, fun q => by omega⟩, fun q => by omega, by omega⟩
    · exact (rz_xB b2 b3 a1).elim
  · have m42 : mi_f h1 6542 = 1 := by
      rcases hG1 with ⟨-, f', q⟩ | ⟨q, -⟩
      · exact (rz_xB k1 k2 q).elim
      · exact q
    obtain ⟨g', d1, d2⟩ : ∃ g, rz_D n c g2 g ∧ rz_U g := by
      rcases hG2 with ⟨q, -⟩ | ⟨-, -, f', ow', g', q1, q2, -⟩
      · omega
      · exact ⟨g', q1, q2⟩
    rcases hC2 with ⟨q, -⟩ | ⟨f, ow, g, hb, k1, k2, k3, k4, k5, k6, k7, k8, k9, ⟨o, k10⟩, k11, k12, k13, -⟩
    · exact (rz_xB d1 d2 q).elim
    rcases hr with hr | ⟨g'', b1, b2, h3, h4, Y, s3, s4, F4, F34, q3, q4, l3, l4, hz, lz, F7, e59, lk, lr⟩
    · exact (rz_xB d1 d2 hr).elim
    have eg := rz_DD b1 k1
    subst eg
    obtain ⟨c1, c2, c3, c4, c5⟩ := CA_fr k11 hS1 F4 (by decide)
    have hT : TW f ow g'' Y h4 := ⟨s4, q4, c3, k3, k4, k5, k6, k2, l4, k7⟩
    have hh := high_same hT k8 c1 c2 s3 F34 q3 l3 hz
    have hG := cg_of hT (TLW_fr k12 hS1 F4 (by decide)) k13 lk hh
    have ha : ∀ k, k ∈ r8_kc → mi_a h2 k = mi_a h4 k := fun k hk => funext fun i => by
      have w1 : ∀ k, k ∈ r8_kc → (mx_isA sx_sk k || mx_isB sx_sk k) = true := by decide +kernel
      have w2 : ∀ k, k ∈ r8_kc → ab_in [(13959, 13960)] (k * 128) = false := by decide
      exact me_a F7 s4 (w1 k hk) (w2 k hk)
    have hk : gx_k h2 = gx_k h4 := gx_k_fr F7 s4 rfl rfl
    have f98 : mi_f h2 7698 = mi_f h4 7698 := me_f (c := 7698) F7 s4 rfl rfl
    have f0 : f (mi_a h4 114 0) = 0 := by
      rw [rk_g2 q4 (r := 114) (by decide)]
      exact (k4.1 0 (by omega)).2
    have hle : mi_f h2 13959 ≤ 2 := by
      rw [e59]
      split
      · omega
      · omega
    refine ⟨?_, fun _ => ⟨f, _, Y, cg_G_eq ha f98 hk hG, by rw [ha 114 (by decide)]; exact lr, by rw [ha 114 (by decide)]; exact f0⟩, hle⟩
    rw [e43, a43, e59]
    by_cases q : y2 = 0
    · rw [if_pos q, if_pos q]
      exact ⟨fun _ => rfl, fun _ => by decide⟩
    · rw [if_neg q, if_neg q]
      exact ⟨fun q => absurd rfl q, fun q => absurd q (by decide)⟩
