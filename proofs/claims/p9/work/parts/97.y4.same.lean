/-! the candidates are the same on both sides -/
theorem sp_vs {n : Nat} {X Z : sp_X} {p : sp_P} (e : sp_eq n X Z) (hp : p.1 < n) : sp_v X p = sp_v Z p ∧ sp_s X p = sp_s Z p := by
  unfold sp_v sp_s
  by_cases c : 0 ≤ p.1
  · rw [if_pos c, if_pos c, if_pos c, if_pos c]; exact ⟨(e _ (by omega)).1, (e _ (by omega)).2.1⟩
  · rw [if_neg c, if_neg c, if_neg c, if_neg c]; exact ⟨rfl, rfl⟩
theorem sa_vs {n : Nat} {X Z : sp_X} {us : List sp_P} (e : sp_eq n X Z) (hu : sg_ok n us) : sa_v X us = sa_v Z us ∧ sa_s X us = sa_s Z us := ⟨sE_av e.v us hu, tb_ext (fun b => sE_as (e.s b) us hu)⟩
theorem wa_cg {E E' : Nat → Nat → Prop} {nr : Nat} (h : ∀ r : Nat, r < nr → ∀ b, E r b ↔ E' r b) : ∀ n : Nat, n ≤ nr → ∀ r : Nat, r < nr → ∀ b, (wa E n r b ↔ wa E' n r b) := by
  intro n
  induction n with
  | zero => intro _ r hr b; exact h r hr b
  | succ n ih =>
    intro hn r hr b
    have i1 := ih (by omega) r hr
    have i2 := ih (by omega) n (by omega)
    show (wa E n r b ∨ (wa E n r n ∧ wa E n n b)) ↔ (wa E' n r b ∨ (wa E' n r n ∧ wa E' n n b))
    rw [i1, i1, i2]
theorem rv_as_ra {g : wk_g} : ∀ (m : Nat) (a : Int), rv_as g m a = (ra_l g m a).map (rv_l g) := by
  intro m
  induction m with
  | zero => intro a; rfl
  | succ m ih =>
    intro a
    show rv_l g a :: rv_as g m (g 128 a.toNat) = rv_l g a :: (ra_l g m (g 128 a.toNat)).map (rv_l g)
    rw [ih]
theorem k8l_cg {dir dir' : Nat → Int64} {pl pl' : Nat → Int} {x : Int} : ∀ (l : List Int) (b : Int64), (∀ a ∈ l, dir a.toNat = dir' a.toNat ∧ pl a.toNat = pl' a.toNat) → (k8l dir pl l b x ↔ k8l dir' pl' l b x) := by
  intro l
  induction l with
  | nil => intro b _; exact Iff.rfl
  | cons a r ih =>
    intro b h
    obtain ⟨h1, h2⟩ := h a List.mem_cons_self
    show (((dir a.toNat &&& b ≠ 0) ∧ x = 8 + 16 * pl a.toNat) ∨ k8l dir pl r (b ||| dir a.toNat) x) ↔ (((dir' a.toNat &&& b ≠ 0) ∧ x = 8 + 16 * pl' a.toNat) ∨ k8l dir' pl' r (b ||| dir' a.toNat) x)
    rw [h1, h2, ih _ (fun a ha => h a (List.mem_cons_of_mem _ ha))]
theorem k8l_c0 {dir : Nat → Int64} {pl : Nat → Int} {x a : Int} {r : List Int} : k8l dir pl (a :: r) 0 x ↔ k8l dir pl r (0 ||| dir a.toNat) x := ⟨k8l_0, Or.inr⟩
theorem ro_cv {h : sm_H} {U : Int} (hU : cv_u h U) : ∀ (n : Nat) (u : Int), (u = -1 ∨ (0 ≤ u ∧ u < U)) → (u ≠ -1 → U - u ≤ n) → ro_ok (fun u => cv_row h 60 (mi_a h 71 u.toNat)) (cv_row h n u) := by
  have h60 := hU.1
  intro n
  induction n with
  | zero => intro u _ _; exact trivial
  | succ n ih =>
    intro u hu hn
    rw [cv_row_c]
    by_cases c : u = -1
    · rw [if_pos c]; exact trivial
    · rw [if_neg c]
      obtain ⟨u0, u1⟩ := hu.resolve_left c
      have hn := hn c
      have w := (hU.2 u u0 u1).1
      refine ⟨cv_row_fuel hU n 60 _ (by omega) (fun q => by omega), ih _ (by omega) (fun q => by omega)⟩
section SAM
variable {f : Int → Int} {ow : Nat → Nat} {g : wk_g} {Y : wk_Y} {hb h h3 : sm_H} {o : Nat → Nat}
theorem bt_of (hC : TC f ow g h) (hI : FI f g) (hZ : rz_U g) (hq3 : RQ g h3) : bt_ok (fun F => bitC ((fm_of f F.toNat : Nat) : Int)) h3 := by
  intro u u0 u1 c9
  have r : ∀ r, r ∈ rk_L → mi_a h3 r = g r := fun r hr => funext fun i => (hq3.2.1 r hr i).symm
  rw [← hq3.1.1] at u1
  rw [r 119 (by decide)] at c9
  have n10 : g 119 u.toNat ≠ 10 := by omega
  obtain ⟨-, y2⟩ := hC.2.2.2.2.1 u.toNat (by omega)
  obtain ⟨z0, z1⟩ := y2 c9
  have p0 := hZ u.toNat (by omega) c9
  have p1 := hC.2.2.2.2.2.1 (g 120 u.toNat).toNat (by omega) p0
  obtain ⟨q1, q2⟩ := hI.1 (g 115 (g 120 u.toNat).toNat).toNat (by omega)
  unfold rv_t
  rw [r 119 (by decide), r 120 (by decide), r 115 (by decide), r 114 (by decide), if_neg n10, if_pos c9]
  show bitC ((fm_of f (g 114 (g 115 (g 120 u.toNat).toNat).toNat).toNat : Nat) : Int) = _
  have e : ((fm_of f (g 114 (g 115 (g 120 u.toNat).toNat).toNat).toNat : Nat) : Int) = g 115 (g 120 u.toNat).toNat := by
    unfold fm_of
    rw [Int.toNat_of_nonneg q1.1, q2]
    omega
  rw [e]
theorem rh_of (hC : TC f ow g h) (hP : PR ow g) (hW : PW g) (hU : cv_u h (g 0 0)) (hq3 : RQ g h3) (hL3 : sy_L h3 Y) : rh_ok h3 (fun u => cv_row h 60 (mi_a h 71 u.toNat)) := by
  intro F hF j hj
  rw [← hq3.1.2.2.1] at hF
  have hj' : (j : Int) < g 130 F := by rw [TW_g hq3 (r := 130) (by decide)] at hj; exact hj
  have b := altr hq3 hW hL3 hF j hj'
  rw [rr_g hq3, alt_g hq3, TW_g hq3 (r := 129) (by decide), ← TW_lg hC hP hU b.1 b.2]
  obtain ⟨x1, -⟩ := hC.2.2.1 (wk_alt g j (g 129 F)).toNat (by omega)
  obtain ⟨⟨q1, q2⟩, -⟩ := hP.2.2.1 (wk_alt g j (g 129 F)).toNat (by omega)
  have h60 := hU.1
  unfold cv_l
  rw [x1]
  exact ro_cv hU 60 _ (by omega) (fun q => by omega)
/-- what both heaps hold -/
def sd_R (f : Int → Int) (ow : Nat → Nat) (g : wk_g) (Y : wk_Y) (h : sm_H) : Prop := RQ g h ∧ TC f ow g h ∧ PR ow g ∧ FI f g ∧ PV 240 g ∧ PW g ∧ rz_U g ∧ sy_L h Y ∧ cv_u h (g 0 0)
theorem rk_g2 (hq : RQ g h) {r : Nat} (hr : r ∈ rk_L) : mi_a h r = g r := funext fun i => (hq.2.1 r hr i).symm
theorem rv_pn (hR : sd_R f ow g Y h) {u : Int} (u0 : 0 ≤ u) (u1 : u < g 0 0) : (rv_p (mi_a h) u).1 < ((g 0 2).toNat : Int) := by
  have k := rv_p1 hR.2.2.2.2.2.2.2.1 u0 (by rw [hR.2.2.2.2.2.2.2.1.2.1, ← hR.1.1.1]; exact u1)
  rw [← hR.1.1.2.2.1] at k
  exact k
theorem sm_part {XR XC : sp_X} (hR : sd_R f ow g Y h) (hK : PKr o g) (T1 : ∀ F : Nat, (F : Int) < g 0 2 → fm_of f F < 70) (S : sp_eq (g 0 2).toNat XR (sn_X (fm_of f) XC)) (e : cv_eq hb h) (e3 : rv_eq h3 h) (hq3 : RQ g h3) (c6 : ∀ F : Nat, F < 70 → ∀ u : Nat, cv_of hb F u → pt_ok (cv_p hb) XC h u ∧ mx_b h 91 u = pf_v hb XC (mx_b h 81 F) u) (r6 : ∀ u : Int, 0 ≤ u → u < g 0 0 → rq_ok (rv_p (mi_a h)) XR h u) (r9 : ∀ F : Nat, (F : Int) < g 0 2 → ∀ u, fr_of h3 F u → mx_b h 137 u.toNat = fw_v (mi_a h3) (fun u => cv_row h 60 (mi_a h 71 u.toNat)) XR (mx_b h 138 F) u) (W81 : ∀ F : Nat, (F : Int) < g 0 2 → mx_b h 81 (fm_of f F) = mx_b h 138 F) : ∀ u : Nat, (u : Int) < g 0 0 → mi_a h 89 u = mi_a h 131 u ∧ mx_b h 90 u = mx_b h 134 u ∧ mx_b h 91 u = mx_b h 137 u := by
  obtain ⟨hq, hC, hP, hI, hV, hW, hZ, hL, hU⟩ := id hR
  intro u hu
  obtain ⟨F, hF2, hof⟩ := cov_u hq hP hW hL hK u hu
  have nfm := T1 F hF2
  have hcv : cv_of hb (fm_of f F) u := e.of.mp ((cvof_g hq hC hP hW hL hU hF2).mpr hof)
  obtain ⟨⟨p1, p2⟩, p3⟩ := c6 (fm_of f F) nfm u hcv
  obtain ⟨q1, q2⟩ := r6 u (by omega) hu
  have ep : cv_p hb (u : Int) = sn (fm_of f) (rv_p (mi_a h) u) := by
    rw [← e.p]
    exact TW_p hq hC hI hV hZ (by omega) hu
  have pn := rv_pn hR (u := (u : Int)) (by omega) hu
  obtain ⟨v1, v2⟩ := sp_vs S pn
  have of3 : fr_of h3 F u := by
    obtain ⟨jj, a1, a2⟩ := hof
    refine ⟨jj, ?_, ?_⟩
    · rw [TW_g hq3 (r := 130) (by decide)]
      rw [TW_g hq (r := 130) (by decide)] at a1
      exact a1
    · rw [rr_g hq3, alt_g hq3, TW_g hq3 (r := 129) (by decide)]
      rw [rr_g hq, alt_g hq, TW_g hq (r := 129) (by decide)] at a2
      exact a2
  have eu : ((u : Int)).toNat = u := by omega
  refine ⟨?_, ?_, ?_⟩
  · rw [p1, ep, sn_v, ← v1]
    exact q1.symm
  · rw [p2, ep, sn_s, ← v2]
    exact q2.symm
  · have r9' := r9 F hF2 u of3
    rw [eu] at r9'
    rw [p3, r9']
    unfold pf_v fw_v
    rw [W81 F hF2]
    have w := (hU.2 u (by omega) hu).1
    rw [eu] at w
    have el : (cv_row hb 60 (mi_a hb 71 u)).map (cv_p hb) = ((cv_row h 60 (mi_a h 71 ((u : Int)).toNat)).map (rv_p (mi_a h3))).map (sn (fm_of f)) := by
      rw [eu, ← e.row, ← e.2.2.2.2.2.2.1, List.map_map, ← e3.p]
      refine List.map_congr_left (fun y hy => ?_)
      obtain ⟨y0, y1⟩ := cv_row_in hU 60 _ (by omega) y hy
      rw [← e.p]
      exact TW_p hq hC hI hV hZ y0 y1
    rw [el]
    refine sn_kr (nr := (g 0 2).toNat) S _ (fun p hp => ?_)
    obtain ⟨y, hy, rfl⟩ := List.mem_map.mp hp
    rw [eu] at hy
    obtain ⟨y0, y1⟩ := cv_row_in hU 60 _ (by omega) y hy
    rw [← e3.p]
    exact rv_pn hR y0 y1
theorem sm_fr (hI : FI f g) : ∀ r : Nat, (r : Int) < g 0 3 → (0 ≤ g 114 r ∧ g 114 r < g 0 2) ∧ fm_of f (g 114 r).toNat = r := by
  intro r hr
  obtain ⟨x1, x2⟩ := hI.1 r hr
  refine ⟨x1, ?_⟩
  unfold fm_of
  rw [Int.toNat_of_nonneg x1.1, x2]
  rfl
/-- the bit of a use -/
theorem sm_bit (hR : sd_R f ow g Y h) : ∀ F : Nat, F < (g 0 2).toNat → ∀ us ∈ GR (mi_a h) F, ∀ p ∈ us, p.2.1 ≠ 0 → 0 ≤ p.1 ∧ bitC ((fm_of f p.1.toNat : Nat) : Int) = bitC ((fm_of f p.1.toNat : Nat) : Int) ∧ fm_of f p.1.toNat < (g 0 3).toNat ∧ (g 114 (fm_of f p.1.toNat)).toNat = p.1.toNat := by
  obtain ⟨hq, hC, hP, hI, hV, hW, hZ, hL, hU⟩ := id hR
  intro F hF us hu p hp hn
  have hu' : us ∈ rv_as (mi_a h) (mi_a h 130 F).toNat (mi_a h 129 F) := hu
  rw [rv_as_ra] at hu'
  obtain ⟨a, ha, rfl⟩ := List.mem_map.mp hu'
  have hp' : p ∈ (rr_l (mi_a h) a).map (rv_p (mi_a h)) := hp
  obtain ⟨u, hu2, rfl⟩ := List.mem_map.mp hp'
  obtain ⟨jj, hjj, rfl⟩ := (ra_mem _ _).mp ha
  have fc := (fr_c hL.1 (F := F) (u := u) (by rw [hL.2.2.1, ← hq.1.2.2.1]; omega) ⟨jj, by omega, hu2⟩).1
  have ug : u < g 0 0 := by rw [hq.1.1, ← hL.2.1]; exact fc.2
  have c9' : g 119 u.toNat = 9 := by
    have hn : (if mi_a h 119 u.toNat = 9 then (1 : Int) else 0) ≠ 0 := hn
    rw [rk_g2 hq (r := 119) (by decide)] at hn
    by_cases c : g 119 u.toNat = 9
    · exact c
    · rw [if_neg c] at hn; exact absurd rfl hn
  obtain ⟨-, y2⟩ := hC.2.2.2.2.1 u.toNat (by omega)
  obtain ⟨z0, z1⟩ := y2 c9'
  have p0 := hZ u.toNat (by omega) c9'
  have p1 := hC.2.2.2.2.2.1 (g 120 u.toNat).toNat (by omega) p0
  obtain ⟨q1, q2⟩ := sm_fr hI (g 115 (g 120 u.toNat).toNat).toNat (by omega)
  have et : (rv_p (mi_a h) u).1 = g 114 (g 115 (g 120 u.toNat).toNat).toNat := by
    show rv_t (mi_a h) u = _
    unfold rv_t
    rw [rk_g2 hq (r := 119) (by decide), rk_g2 hq (r := 120) (by decide), rk_g2 hq (r := 115) (by decide), rk_g2 hq (r := 114) (by decide), if_neg (by omega), if_pos c9']
  rw [et, q2]
  exact ⟨q1.1, rfl, by omega, rfl⟩
theorem sm_beg {j' i : Nat} (hR : sd_R f ow g Y h) (GO : sg_OK (g 0 2).toNat (GR (mi_a h))) (CO : sg_OK 70 (GC h)) (T : sg_two (g 0 2).toNat 70 (fm_of f) (GR (mi_a h)) (GC h)) (r2 : sp_fix (g 0 2).toNat (GR (mi_a h)) (sr_k (GR (mi_a h)) j')) (rb : ∀ F : Nat, F < (g 0 2).toNat → lr_k (fun F => bitC ((fm_of f F.toNat : Nat) : Int)) (GR (mi_a h)) (j' + 1) F = lr_k (fun F => bitC ((fm_of f F.toNat : Nat) : Int)) (GR (mi_a h)) j' F) (c9 : sp_fix 70 (bG (GC h)) (sps_k (bG (GC h)) 70 i)) (hv : ∀ F : Nat, F < (g 0 2).toNat → (sr_k (GR (mi_a h)) j').1 F = (sps_k (bG (GC h)) 70 i).1 (fm_of f F)) (c8 : ∀ r : Nat, (r : Int) < g 0 3 → b64 (mi_a h 83 r) = (sps_k (bG (GC h)) 70 i).2.1 r) (ra : ∀ F : Nat, F < (g 0 2).toNat → lX h F = lr_k (fun F => bitC ((fm_of f F.toNat : Nat) : Int)) (GR (mi_a h)) j' F) (rc : ∀ r : Nat, (r : Int) < g 0 3 → ∀ b, (tb (b64 (mi_a h 116 r)) b = true ↔ wa (fun r b => tb (lX h (g 114 r).toNat) b = true) (g 0 3).toNat r b)) : ∀ r : Nat, (r : Int) < g 0 3 → (k_bit (mi_a h 83 r) r ↔ tb (b64 (mi_a h 116 r)) r = true) := by
  obtain ⟨hq, hC, hP, hI, hV, hW, hZ, hL, hU⟩ := id hR
  have b10 := hP.1.2.2.1
  intro r hr
  have r10 : r < 10 := by omega
  rw [(bit_b (mi_a h 83 r) r10).2, rc r hr r, c8 r hr]
  have B := bg_same (β := fun F => bitC ((fm_of f F.toNat : Nat) : Int)) (rf := fun r => (g 114 r).toNat) (nr := (g 0 3).toNat) (j := j') (i := i) GO CO T r2 rb c9 hv (sm_bit hR) (by omega) (fun r hr => by have := (sm_fr hI r (by omega)).1; show (g 114 r).toNat < (g 0 2).toNat; omega) (fun r hr => (sm_fr hI r (by omega)).2) r (by omega) r
  rw [B]
  refine wa_cg (nr := (g 0 3).toNat) (fun q hq' b => ?_) _ (Nat.le_refl _) r (by omega) r
  have x := (sm_fr hI q (by omega)).1
  have z := ra (g 114 q).toNat (by omega)
  show tb (lr_k (fun F => bitC ((fm_of f F.toNat : Nat) : Int)) (GR (mi_a h)) j' (g 114 q).toNat) b = true ↔ tb (lX h (g 114 q).toNat) b = true
  rw [z]
theorem sm_eA (hR : sd_R f ow g Y h) (e : cv_eq hb h) {F : Nat} (hF : (F : Int) < g 0 2) : cv_A hb (fm_of f F) = ra_l g (g 130 F).toNat (g 129 F) ∧ ra_L h F = ra_l g (g 130 F).toNat (g 129 F) := by
  obtain ⟨hq, hC, hP, hI, hV, hW, hZ, hL, hU⟩ := id hR
  refine ⟨?_, ?_⟩
  · rw [← e.A]
    exact cvA_g hq hC hP hW hL hF
  · have : ∀ (m : Nat) (a : Int), ra_l (mi_a h) m a = ra_l g m a := by
      intro m
      induction m with
      | zero => intro a; rfl
      | succ m ih => intro a; show a :: ra_l (mi_a h) m (mi_a h 128 a.toNat) = a :: ra_l g m (g 128 a.toNat); rw [ih, rk_g2 hq (r := 128) (by decide)]
    unfold ra_L
    rw [this, rk_g2 hq (r := 130) (by decide), rk_g2 hq (r := 129) (by decide)]
theorem sm_memr (hR : sd_R f ow g Y h) (e : cv_eq hb h) {F : Nat} (hF : (F : Int) < g 0 2) {a : Int} (ha : a ∈ ra_L h F) : (0 ≤ a ∧ a < g 0 1) ∧ rv_l (mi_a h) a ∈ GR (mi_a h) F := by
  obtain ⟨hq, hC, hP, hI, hV, hW, hZ, hL, hU⟩ := id hR
  refine ⟨?_, ?_⟩
  · rw [(sm_eA hR e hF).2] at ha
    obtain ⟨jj, hjj, rfl⟩ := (ra_mem _ _).mp ha
    exact altr hq hW hL hF jj (by omega)
  · show _ ∈ rv_as (mi_a h) (mi_a h 130 F).toNat (mi_a h 129 F)
    rw [rv_as_ra]
    exact List.mem_map.mpr ⟨a, ha, rfl⟩
theorem sm_dirs {XR XC Z : sp_X} (hR : sd_R f ow g Y h) (T1 : ∀ F : Nat, (F : Int) < g 0 2 → fm_of f F < 70) (GO : sg_OK (g 0 2).toNat (GR (mi_a h))) (S : sp_eq (g 0 2).toNat XR (sn_X (fm_of f) XC)) (e : cv_eq hb h) (c7 : ∀ F : Nat, F < 70 → ∀ a ∈ cv_A hb F, mx_b h 88 a.toNat = sa_s XC ((cv_l hb a).map (cv_p hb)) ||| (if sa_v XC ((cv_l hb a).map (cv_p hb)) = 1 then mx_b h 81 F else 0)) (r7 : sp_eq (g 0 2).toNat Z XR) (r8 : ∀ a : Int, 0 ≤ a → a < g 0 1 → ap_ok Z h a) (W81 : ∀ F : Nat, (F : Int) < g 0 2 → mx_b h 81 (fm_of f F) = mx_b h 138 F) {F : Nat} (hF : (F : Int) < g 0 2) {a : Int} (ha : a ∈ ra_L h F) : mx_b h 88 a.toNat = jd h F a.toNat := by
  obtain ⟨hq, hC, hP, hI, hV, hW, hZ, hL, hU⟩ := id hR
  obtain ⟨⟨a0, a1⟩, am⟩ := sm_memr hR e hF ha
  have k1 := c7 (fm_of f F) (T1 F hF) a (by rw [(sm_eA hR e hF).1, ← (sm_eA hR e hF).2]; exact ha)
  obtain ⟨y1, y2, -⟩ := r8 a a0 a1
  obtain ⟨l1, -⟩ := TW_l hq hC hP hI hV hZ hL a0 a1
  obtain ⟨n1, n2, -⟩ := sn_a (fm := fm_of f) (X := XC) (rv_l (mi_a h) a)
  have el : (cv_l hb a).map (cv_p hb) = (rv_l (mi_a h) a).map (sn (fm_of f)) := by
    rw [← e.l, ← e.p]
    exact l1
  rw [el, n1, n2] at k1
  have ok := (GO F (by omega) _ am).1
  obtain ⟨s1, s2⟩ := sa_vs S ok
  obtain ⟨t1, t2⟩ := sa_vs r7 ok
  have v01 := sa_v_01 Z (rv_l (mi_a h) a)
  rw [← s1, ← s2, ← t1, ← t2, W81 F hF, ← y1, ← y2] at k1
  rw [← y1] at v01
  rw [k1]
  unfold jd
  rcases v01 with q | q
  · rw [if_neg (by omega), if_neg (by omega)]
  · rw [if_pos q, if_pos (by omega)]
theorem sm_alts (hR : sd_R f ow g Y h) (hQ : PQ 240 g) (hTP : TP g h) (e : cv_eq hb h) (dirs : ∀ F : Nat, (F : Int) < g 0 2 → ∀ a ∈ ra_L h F, mx_b h 88 a.toNat = jd h F a.toNat) : ∀ F : Nat, (F : Int) < g 0 2 → ∀ x, (k8l (mx_b h 88) (mi_a h 67) (cv_A hb (fm_of f F)) 0 x ↔ k8l (jd h F) (mi_a h 127) (ra_L h F) 0 x) := by
  obtain ⟨hq, hC, hP, hI, hV, hW, hZ, hL, hU⟩ := id hR
  intro F hF x
  obtain ⟨m1, m2⟩ := sm_eA hR e hF
  have dr := dirs F hF
  rw [m2] at dr ⊢
  rw [m1]
  cases hc : (g 130 F).toNat with
  | zero => exact ⟨fun q => (show False from q).elim, fun q => (show False from q).elim⟩
  | succ m =>
    rw [hc] at dr
    have dr : ∀ a ∈ g 129 F :: ra_l g m (g 128 (g 129 F).toNat), mx_b h 88 a.toNat = jd h F a.toNat := dr
    show k8l (mx_b h 88) (mi_a h 67) (g 129 F :: ra_l g m (g 128 (g 129 F).toNat)) 0 x ↔ k8l (jd h F) (mi_a h 127) (g 129 F :: ra_l g m (g 128 (g 129 F).toNat)) 0 x
    refine k8l_c0.trans (Iff.trans ?_ k8l_c0.symm)
    rw [dr _ List.mem_cons_self]
    refine k8l_cg _ _ (fun a ha => ⟨dr a (List.mem_cons_of_mem _ ha), ?_⟩)
    obtain ⟨jj, hjj, e1⟩ := (ra_mem _ _).mp ha
    have e1 : a = wk_alt g (jj + 1) (g 129 F) := e1
    have p := alt_pl hq hW hL hQ hF (j := jj) (by omega)
    have b := altr hq hW hL hF (jj + 1) (by omega)
    rw [← e1] at p b
    rw [rk_g2 hq (r := 127) (by decide)]
    exact hTP.2.2.1 a.toNat (by omega) (by omega)
theorem sm_wrap (hR : sd_R f ow g Y h) (hTP : TP g h) : ∀ u : Nat, (u : Int) < g 0 0 → (mi_a h 72 u ≠ 0 ↔ 0 < mi_a h 122 u) ∧ (0 < mi_a h 122 u → mi_a h 73 u = mi_a h 123 u) := by
  obtain ⟨hq, hC, hP, hI, hV, hW, hZ, hL, hU⟩ := id hR
  intro u hu
  have x := (hC.2.2.2.1 u hu).2.2.2
  have v := (hV.2.2 u hu).2.2.1
  rw [rk_g2 hq (r := 122) (by decide), rk_g2 hq (r := 123) (by decide), x]
  by_cases c : g 122 u = 0
  · rw [if_pos c, c]
    exact ⟨⟨fun q => absurd rfl q, fun q => absurd q (by decide)⟩, fun q => absurd q (by decide)⟩
  · rw [if_neg c]
    exact ⟨⟨fun _ => by omega, fun _ => by omega⟩, fun _ => hTP.2.2.2 u hu c⟩
/-- all together -/
theorem sm_all (hS : ab_Sh sx_sk h) (hR : sd_R f ow g Y h) (hTP : TP g h) (e : cv_eq hb h) (T1 : ∀ F : Nat, (F : Int) < g 0 2 → fm_of f F < 70) (hSR : SR h) (part : ∀ u : Nat, (u : Int) < g 0 0 → mi_a h 89 u = mi_a h 131 u ∧ mx_b h 90 u = mx_b h 134 u ∧ mx_b h 91 u = mx_b h 137 u) (beg : ∀ r : Nat, (r : Int) < g 0 3 → (k_bit (mi_a h 83 r) r ↔ tb (b64 (mi_a h 116 r)) r = true)) (alts : ∀ F : Nat, (F : Int) < g 0 2 → ∀ x, (k8l (mx_b h 88) (mi_a h 67) (cv_A hb (fm_of f F)) 0 x ↔ k8l (jd h F) (mi_a h 127) (ra_L h F) 0 x)) : ∀ x, k_all hb h x ↔ j_all h x := by
  obtain ⟨hq, hC, hP, hI, hV, hW, hZ, hL, hU⟩ := id hR
  have wrap := sm_wrap hR hTP
  have e65 : mi_f h 13965 = g 0 2 := hq.1.2.2.1.symm
  have e61 : mi_f h 13961 = g 0 3 := hq.1.2.2.2.1.symm
  have e63 : mi_f h 13963 = g 0 0 := hq.1.1.symm
  have t0 := hTP.1
  intro x
  have k5 : k_5 h (mi_f h 7680) x ↔ j_5 h (mi_f h 13961) x := by
    unfold k_5 j_5
    rw [t0.2, e61]
    constructor
    · rintro ⟨r, a1, a2, a3⟩
      exact ⟨r, a1, (beg r a1).mp a2, by rw [a3, hTP.2.1 r a1, rk_g2 hq (r := 113) (by decide)]⟩
    · rintro ⟨r, a1, a2, a3⟩
      exact ⟨r, a1, (beg r a1).mpr a2, by rw [a3, hTP.2.1 r a1, rk_g2 hq (r := 113) (by decide)]⟩
  have k6 : k_6 h (mi_f h 7680) x ↔ j_6 h (mi_f h 13961) x := by
    unfold k_6 j_6
    rw [t0.2, e61]
    constructor
    · rintro ⟨r, a1, a2, a3⟩
      refine ⟨r, a1, ?_, by rw [a3, hTP.2.1 r a1, rk_g2 hq (r := 113) (by decide)]⟩
      rw [← (hSR r (by omega)).2.2.2.1]
      exact a2
    · rintro ⟨r, a1, a2, a3⟩
      refine ⟨r, a1, ?_, by rw [a3, hTP.2.1 r a1, rk_g2 hq (r := 113) (by decide)]⟩
      rw [(hSR r (by omega)).2.2.2.1]
      exact a2
  have k7 : k_7 h (mi_f h 7690) x ↔ j_7 h (mi_f h 13963) x := by
    unfold k_7 j_7
    rw [t0.1, e63]
    constructor
    · rintro ⟨u, a1, ⟨a2, a2'⟩, a3⟩
      have w := wrap u a1
      have w0 := w.1.mp a2
      exact ⟨u, a1, ⟨w0, by rw [← (part u a1).1, a2']; decide⟩, by rw [a3, w.2 w0]⟩
    · rintro ⟨u, a1, ⟨a2, a2'⟩, a3⟩
      have w := wrap u a1
      have bd := me_ab (k := 131) (i := u) hS rfl (by decide) (by have := hP.1.1; omega)
      exact ⟨u, a1, ⟨w.1.mpr a2, by rw [(part u a1).1]; omega⟩, by rw [a3, w.2 a2]⟩
  have k9 : k_9 h (mi_f h 7690) x ↔ j_9 h (mi_f h 13963) x := by
    unfold k_9 j_9
    rw [t0.1, e63]
    constructor
    · rintro ⟨u, a1, ⟨a2, a2'⟩, a3⟩
      have w := wrap u a1
      have w0 := w.1.mp a2
      exact ⟨u, a1, ⟨w0, by rw [← (part u a1).2.1, ← (part u a1).2.2]; exact a2'⟩, by rw [a3, w.2 w0]⟩
    · rintro ⟨u, a1, ⟨a2, a2'⟩, a3⟩
      have w := wrap u a1
      exact ⟨u, a1, ⟨w.1.mpr a2, by rw [(part u a1).2.1, (part u a1).2.2]; exact a2'⟩, by rw [a3, w.2 a2]⟩
  have k8 : k_8 hb h 70 x ↔ j_8 h (mi_f h 13965) x := by
    unfold k_8 j_8
    rw [e65]
    constructor
    · rintro ⟨F, a1, a2⟩
      obtain ⟨a, ha, -⟩ := k8l_in _ _ a2
      rw [← e.A] at ha
      obtain ⟨F', hF', rfl⟩ := cvA_r hC hI a1 ha
      exact ⟨F', hF', (alts F' hF' x).mp a2⟩
    · rintro ⟨F, a1, a2⟩
      exact ⟨fm_of f F, T1 F a1, (alts F a1 x).mpr a2⟩
  unfold k_all j_all
  rw [k5, k6, k7, k9, k8]
theorem cand_same (hT : TW f ow g Y h) (h1 : 1 ≤ g 0 3) (hQ : PQ 240 g) (hK : PKr o g) (hTP : TP g h) (e : cv_eq hb h) (hw : wx_B hb h) (hS3 : ab_Sh sx_sk h3) (hF3 : ab_Fr sy_W h3 h) (hq3 : RQ g h3) (hL3 : sy_L h3 Y) (hz : ∀ (β : Int → Int64) (ρ : Int → List Int), bt_ok β h3 → rh_ok h3 ρ → sz_Z β ρ h3 none h) : ∀ x, k_all hb h x ↔ j_all h x := by
  obtain ⟨T, hF⟩ := TW_two hT
  obtain ⟨hS, hq, hC, hP, hI, hV, hW, hZ, hL, hA⟩ := id hT
  have hU := hF.1
  have hR : sd_R f ow g Y h := ⟨hq, hC, hP, hI, hV, hW, hZ, hL, hU⟩
  have e3 : rv_eq h3 h := rv_eq_fr hF3 hS3 rfl
  have GO := sy_OK hL (TW_A hq hW hL)
  have CO := cv_OK hF
  have e65 : mi_f h 13965 = g 0 2 := hq.1.2.2.1.symm
  have f65 : mi_f h3 13965 = g 0 2 := hq3.1.2.2.1.symm
  have f61 : mi_f h3 13961 = g 0 3 := hq3.1.2.2.2.1.symm
  have f63 : mi_f h3 13963 = g 0 0 := hq3.1.1.symm
  have f64 : mi_f h3 13964 = g 0 1 := hq3.1.2.1.symm
  have eG : GR (mi_a h3) = GR (mi_a h) := e3.g.symm
  have eP : rv_p (mi_a h3) = rv_p (mi_a h) := e3.p.symm
  have g114 : mi_a h3 114 = g 114 := rk_g2 hq3 (by decide)
  have r114 : mi_a h 114 = g 114 := rk_g2 hq (by decide)
  have hz := hz _ _ (bt_of hC hI hZ hq3) (rh_of hC hP hW hU hq3 hL3)
  obtain ⟨-, -, -, j', k', W', ⟨r1, r2, r3, r4, r5⟩, r6, ⟨Z, r7, r8⟩, r9, ra, rb, rc⟩ := hz
  rw [eG, f65] at r1 r2 r4 r5 r7 ra rb r9
  rw [f65, g114] at r3
  rw [f63, eG, eP] at r6
  rw [f64] at r8
  rw [f61, g114] at rc
  rw [e65] at T GO
  have T1 : ∀ F : Nat, (F : Int) < g 0 2 → fm_of f F < 70 := fun F hF => (T.1 F (by omega)).1
  obtain ⟨j, k, W, c1, c2, c3, c4, c5, c6, c7, ⟨i, c8, c9⟩, -⟩ := hw
  rw [← e.g] at c1 c2 c4 c5 c6 c7 c8 c9
  have S := sg_same GO CO T r2 c2
  have f0 := sm_fr hI 0 (by omega)
  have SW := sg_sameW GO CO T S (WR := W') (WC := W) (k := k') (k' := k) (fun F hF' => by
    have k1 := (T.1 F hF').1
    rw [c3 _ k1, r3 F (by omega)]
    by_cases c : (F : Int) = g 114 0
    · rw [if_pos c, if_pos]
      have : F = (g 114 0).toNat := by omega
      rw [this]
      exact f0.2
    · rw [if_neg c, if_neg]
      intro q
      refine c ?_
      have := T.2.1 F (g 114 0).toNat hF' (by omega) (q.trans f0.2.symm)
      omega) (fun i hi hn => by
    rw [c3 i hi, if_neg]
    intro q
    exact hn (g 114 0).toNat (by omega) (by rw [q]; exact f0.2)) r5 c5
  have W81 : ∀ F : Nat, (F : Int) < g 0 2 → mx_b h 81 (fm_of f F) = mx_b h 138 F := fun F hF => by
    rw [c4, r4]
    exact (SW F (by omega)).symm
  have hSR : SR h := SR_of (j' := j') (k' := k') (W' := W') hT h1 c1 c2 c3 c4 c5 (by rw [e65]; exact r1) (by rw [e65]; exact r2) (fun i hi => by rw [e65] at hi; rw [r3 i hi, r114]) (fun i => by rw [e65]; exact r4 i) (by rw [e65]; exact r5)
  refine sm_all hS hR hTP e T1 hSR ?_ ?_ ?_
  · exact sm_part hR hK T1 S e e3 hq3 c6 r6 (fun F hF u hu => by rw [r4 F]; exact r9 F hF u hu) W81
  · refine sm_beg hR GO CO T r2 (fun F hF => rb F (by omega)) c9 (fun F hF => ?_) (fun r hr => ?_) (fun F hF => ra F (by omega)) rc
    · have s1 := (S F hF).1
      have cb := (c8 (fm_of f F) (T.1 F hF).1).1
      have cx := (c1 (fm_of f F) (T.1 F hF).1).1
      have cb : mi_a h 79 (fm_of f F) = (sps_k (bG (GC h)) 70 i).1 (fm_of f F) := cb
      have cx : mi_a h 79 (fm_of f F) = (sps_k (GC h) 70 j).1 (fm_of f F) := cx
      rw [s1]
      show (sps_k (GC h) 70 j).1 (fm_of f F) = _
      rw [← cx, cb]
    · have b10 := hP.1.2.2.1
      exact (c8 r (by omega)).2.1
  · exact sm_alts hR hQ hTP e (fun F hF a ha => sm_dirs hR T1 GO S e c7 r7 r8 W81 hF ha)
end SAM
/-- both answer the same -/
theorem ans_same {n : Int} {c : Nat → Int} {g0 : wk_g} {h1 h2 : sm_H} {y y' : Int} (hS1 : ab_Sh sx_sk h1) (hc : cm_5 n c g0 (some (.inl y)) h1) (hr : rz_B n c g0 y' ∨ ∃ g, rz_D n c g0 g ∧ rz_U g ∧ co_R h1 h2 g y') : y = y' := by
  obtain ⟨z, ez, -, -, hc⟩ := hc
  have ez : z = y := by injection ez with ez; injection ez with ez; exact ez.symm
  subst ez
  rcases hc with ⟨hc, -⟩ | ⟨f, ow, g, hb, k1, k2, k3, k4, k5, k6, k7, k8, k9, ⟨o, k10⟩, k11, -⟩
  · rcases hr with hr | ⟨g, b1, b2, -⟩
    · exact rz_BB hc hr
    · exact (rz_xB b1 b2 hc).elim
  · rcases hr with hr | ⟨g', b1, b2, h3, h4, Y, s3, s4, F4, F34, q3, q4, l3, l4, hz, lz, -, -, -, -⟩
    · exact (rz_xB k1 k2 hr).elim
    · have eg := rz_DD b1 k1
      subst eg
      obtain ⟨c1, c2, c3, c4, c5⟩ := CA_fr k11 hS1 F4 (by decide)
      have hT : TW f ow g' Y h4 := ⟨s4, q4, c3, k3, k4, k5, k6, k2, l4, k7⟩
      have same := cand_same hT k8 k9 k10 c4 c1 c2 s3 F34 q3 l3 hz
      have pl := j_plo q4 k6 l4 k9
      refine lo_u (j_pos pl (fun x hx => ?_)) (lo_cg c5 same) lz
      obtain ⟨F, hF, k⟩ := hx
      obtain ⟨a, ha, e⟩ := k8l_in _ _ k
      obtain ⟨jj, hjj, rfl⟩ := (ra_mem _ _).mp ha
      have := (pl.2.2 F hF jj (by omega)).1
      omega
