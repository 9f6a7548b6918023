/-! after both have compiled: the sets are the same; what parse asks of them -/
def ss_R (g : wk_g) (h : sm_H) : Prop := (∀ u : Nat, (u : Int) < g 0 0 → mx_b h 90 u = mx_b h 134 u) ∧ (∀ F : Nat, (F : Int) < g 0 2 → ∀ a ∈ ra_L h F, mx_b h 88 a.toNat = jd h F a.toNat) ∧ ∃ X Z : sp_X, sp_fix (g 0 2).toNat (GR (mi_a h)) X ∧ (∀ u : Int, 0 ≤ u → u < g 0 0 → rq_ok (rv_p (mi_a h)) X h u) ∧ sp_eq (g 0 2).toNat Z X ∧ ∀ a : Int, 0 ≤ a → a < g 0 1 → ap_ok Z h a
section SSM
variable {f : Int → Int} {ow : Nat → Nat} {g : wk_g} {Y : wk_Y} {hb h h3 : sm_H} {o : Nat → Nat}
theorem sets_same (hT : TW f ow g Y h) (h1 : 1 ≤ g 0 3) (hK : PKr o g) (e : cv_eq hb h) (hw : wx_B hb h) (hS3 : ab_Sh sx_sk h3) (hF3 : ab_Fr sy_W h3 h) (hq3 : RQ g h3) (hL3 : sy_L h3 Y) (hz : ∀ (β : Int → Int64) (ρ : Int → List Int), bt_ok β h3 → rh_ok h3 ρ → sz_Z β ρ h3 none h) : ss_R g h := by
  obtain ⟨T, hF⟩ := TW_two hT
  obtain ⟨hS, hq, hC, hP, hI, hV, hW, hZ, hL, hA⟩ := id hT
  have hU := hF.1
  have hR : sd_R f ow g Y h := ⟨hq, hC, hP, hI, hV, hW, hZ, hL, hU⟩
  have e3 : rv_eq h3 h := rv_eq_fr hF3 hS3 rfl
  have GO := sy_OK hL (TW_A hq hW hL)
  have CO := cv_OK hF
  have e65 : mi_f h 13965 = g 0 2 := hq.1.2.2.1.symm
  have f65 : mi_f h3 13965 = g 0 2 := hq3.1.2.2.1.symm
  have f63 : mi_f h3 13963 = g 0 0 := hq3.1.1.symm
  have f64 : mi_f h3 13964 = g 0 1 := hq3.1.2.1.symm
  have eG : GR (mi_a h3) = GR (mi_a h) := e3.g.symm
  have eP : rv_p (mi_a h3) = rv_p (mi_a h) := e3.p.symm
  have g114 : mi_a h3 114 = g 114 := rk_g2 hq3 (by decide)
  have hz := hz _ _ (bt_of hC hI hZ hq3) (rh_of hC hP hW hU hq3 hL3)
  obtain ⟨-, -, -, j', k', W', ⟨r1, r2, r3, r4, r5⟩, r6, ⟨Z, r7, r8⟩, r9, ra, rb, rc⟩ := hz
  rw [eG, f65] at r1 r2 r4 r5 r7 r9
  rw [f65, g114] at r3
  rw [f63, eG, eP] at r6
  rw [f64] at r8
  rw [e65] at T GO
  have T1 : ∀ F : Nat, (F : Int) < g 0 2 → fm_of f F < 70 := fun F hF => (T.1 F (by omega)).1
  obtain ⟨j, k, W, c1, c2, c3, c4, c5, c6, c7, ⟨i, c8, c9⟩, -⟩ := hw
  rw [← e.g] at c1 c2 c4 c5 c6 c7 c8 c9
  have S := sg_same GO CO T r2 c2
  have f0 := sm_fr hI 0 (by omega)
  have SW := sg_sameW GO CO T S (WR := W') (WC := W) (k := k') (k' := k) (fun F hF' => by
    have k1 := (T.1 F hF').1
    rw [c3 _ k1, r3 F (by omega)]
    by_cases c : (F : Int) = g 114 0
    · rw [if_pos c, if_pos]
      have : F = (g 114 0).toNat := by omega
      rw [this]
      exact f0.2
    · rw [if_neg c, if_neg]
      intro q
      refine c ?_
      have := T.2.1 F (g 114 0).toNat hF' (by omega) (q.trans f0.2.symm)
      omega) (fun i hi hn => by
    rw [c3 i hi, if_neg]
    intro q
    exact hn (g 114 0).toNat (by omega) (by rw [q]; exact f0.2)) r5 c5
  have W81 : ∀ F : Nat, (F : Int) < g 0 2 → mx_b h 81 (fm_of f F) = mx_b h 138 F := fun F hF => by
    rw [c4, r4]
    exact (SW F (by omega)).symm
  refine ⟨fun u hu => (sm_part hR hK T1 S e e3 hq3 c6 r6 (fun F hF u hu => by rw [r4 F]; exact r9 F hF u hu) W81 u hu).2.1, fun F hF a ha => sm_dirs hR T1 GO S e c7 r7 r8 W81 hF ha, _, Z, r2, r6, r7, r8⟩
end SSM
section SFT
variable {X : sp_X} {b : Nat}
theorem sf_tb : ∀ L : List (List sp_P), tb (sf_s X L) b = true → ∃ us ∈ L, tb (sa_s X us) b = true := by
  intro L
  induction L with
  | nil =>
    intro h
    have h : tb 0 b = true := h
    rw [tb_0] at h
    cases h
  | cons a r ih =>
    intro h
    rw [sf_s_c, tb_or, Bool.or_eq_true] at h
    rcases h with h | h
    · exact ⟨a, List.mem_cons_self, h⟩
    · obtain ⟨us, u1, u2⟩ := ih h
      exact ⟨us, List.mem_cons_of_mem _ u1, u2⟩
theorem sa_tb : ∀ L : List sp_P, tb (sa_s X L) b = true → ∃ p ∈ L, tb (sp_s X p) b = true := by
  intro L
  induction L with
  | nil =>
    intro h
    have h : tb 0 b = true := h
    rw [tb_0] at h
    cases h
  | cons a r ih =>
    intro h
    rw [sa_s_c] at h
    split at h
    · rw [tb_or, Bool.or_eq_true] at h
      rcases h with h | h
      · exact ⟨a, List.mem_cons_self, h⟩
      · obtain ⟨us, u1, u2⟩ := ih h
        exact ⟨us, List.mem_cons_of_mem _ u1, u2⟩
    · exact ⟨a, List.mem_cons_self, h⟩
theorem row_it {g : wk_g} {w : Int} : ∀ (n : Nat) (u : Int), w ∈ wk_row g n u → ∃ o, ((0, w, o) : wk_E) ∈ wk_it g n u := by
  intro n
  induction n with
  | zero => intro u h; cases h
  | succ n ih =>
    intro u h
    rw [wk_row] at h
    rw [wk_it]
    by_cases c : u < 0
    · rw [if_pos c] at h
      cases h
    · rw [if_neg c] at h ⊢
      by_cases cm : 0 ≤ g 124 u.toNat
      · rw [if_pos cm] at h ⊢
        rcases List.mem_cons.mp h with h | h
        · exact ⟨1, by rw [h]; exact List.mem_cons_self⟩
        · rcases List.mem_cons.mp h with h | h
          · exact ⟨0, by rw [h]; exact List.mem_cons_of_mem _ (List.mem_cons_of_mem _ List.mem_cons_self)⟩
          · obtain ⟨o, ho⟩ := ih _ h
            exact ⟨o, List.mem_cons_of_mem _ (List.mem_cons_of_mem _ (List.mem_cons_of_mem _ (List.mem_cons_of_mem _ ho)))⟩
      · rw [if_neg cm] at h ⊢
        rcases List.mem_cons.mp h with h | h
        · exact ⟨0, by rw [h]; exact List.mem_cons_self⟩
        · obtain ⟨o, ho⟩ := ih _ h
          exact ⟨o, List.mem_cons_of_mem _ ho⟩
theorem k8_dis {dir : Nat → Int64} {pl : Nat → Int} {g : wk_g} : ∀ (m : Nat) (a : Int) (c : Int64), (∀ x, ¬ k8l dir pl (ra_l g m a) c x) → (∀ (j s : Nat), j < m → tb (dir (wk_alt g j a).toNat) s = true → tb c s = true → False) ∧ ∀ (i j s : Nat), i < j → j < m → tb (dir (wk_alt g i a).toNat) s = true → tb (dir (wk_alt g j a).toNat) s = true → False := by
  intro m
  induction m with
  | zero => intro a c _; exact ⟨fun j s hj => absurd hj (Nat.not_lt_zero _), fun i j s _ hj => absurd hj (Nat.not_lt_zero _)⟩
  | succ m ih =>
    intro a c h
    have h1 : dir a.toNat &&& c = 0 := Classical.byContradiction fun q => h (8 + 16 * pl a.toNat) (Or.inl ⟨q, rfl⟩)
    obtain ⟨i1, i2⟩ := ih (g 128 a.toNat) (c ||| dir a.toNat) (fun x q => h x (Or.inr q))
    refine ⟨fun j s hj q1 q2 => ?_, fun i j s hij hj q1 q2 => ?_⟩
    · cases j with
      | zero =>
        have q1 : tb (dir a.toNat) s = true := q1
        have := tb_and (dir a.toNat) c s
        rw [h1, tb_0, q1, q2] at this
        cases this
      | succ j => exact i1 j s (by omega) q1 (by rw [tb_or, q2]; rfl)
    · cases j with
      | zero => omega
      | succ j =>
        cases i with
        | zero =>
          have q1 : tb (dir a.toNat) s = true := q1
          exact i1 j s (by omega) q2 (by rw [tb_or, q1, Bool.or_true])
        | succ i => exact i2 i j s (by omega) (by omega) q1 q2
end SFT
/-- the reference's sets, for kinds of which B holds -/
def px_B (B : Int → Bool) (E1 E2 : Int → Int) (h : sm_H) : pm_E := (E1, E2, fun u k => px_bit (mx_b h 134 u.toNat) k && B k, fun f a k => px_bit (px_dir (mi_a h 132 a.toNat) (mx_b h 135 a.toNat) (mx_b h 138 f.toNat)) k && B k)
theorem px_B_t {E1 E2 : Int → Int} {h : sm_H} : px_B (fun _ => true) E1 E2 h = (E1, E2, (px_E h).2.2) := by
  unfold px_B px_E
  simp only [Bool.and_true]
theorem pxd_jd {h : sm_H} {F a : Nat} : px_dir (mi_a h 132 a) (mx_b h 135 a) (mx_b h 138 F) = jd h F a := by
  unfold px_dir jd
  by_cases c : mi_a h 132 a = 0
  · rw [if_pos c, if_neg (fun q => q c)]
    rfl
  · rw [if_neg c, if_pos c]
section HSO
variable {f : Int → Int} {ow : Nat → Nat} {g : wk_g} {Y : wk_Y} {h : sm_H} {B : Int → Bool} {E1 E2 : Int → Int}
theorem hs_of (hT : TW f ow g Y h) (hs : ss_R g h) (hz0 : ∀ x, ¬ j_8 h (mi_f h 13965) x) : ∃ pf pa, pm_Hs (mi_a h) Y (px_B B E1 E2 h) pf pa := by
  obtain ⟨hS, hq, hC, hP, hI, hV, hW, hZ, hL, hA⟩ := id hT
  obtain ⟨s1, s2, X, Z, s3, s4, s5, s6⟩ := hs
  have eu : wk_u Y = g 0 0 := hL.2.1.trans hq.1.1.symm
  have ef : wk_f Y = g 0 2 := hL.2.2.1.trans hq.1.2.2.1.symm
  have e65 : mi_f h 13965 = g 0 2 := hq.1.2.2.1.symm
  have GO := sy_OK hL (TW_A hq hW hL)
  rw [e65] at GO
  have alt_in : ∀ (F : Int) (j : Nat), 0 ≤ F → F < wk_f Y → (j : Int) < mi_a h 130 F.toNat → (0 ≤ wk_alt (mi_a h) j (mi_a h 129 F.toNat) ∧ wk_alt (mi_a h) j (mi_a h 129 F.toNat) < g 0 1) ∧ rv_l (mi_a h) (wk_alt (mi_a h) j (mi_a h 129 F.toNat)) ∈ GR (mi_a h) F.toNat := by
    intro F j F0 F1 hj
    have e130 : mi_a h 130 = g 130 := rk_g2 hq (by decide)
    have e129 : mi_a h 129 = g 129 := rk_g2 hq (by decide)
    refine ⟨?_, ?_⟩
    · have := altr hq hW hL (F := F.toNat) (by omega) j (by rw [← e130]; exact hj)
      rw [alt_g hq, e129]
      exact this
    · show _ ∈ rv_as (mi_a h) (mi_a h 130 F.toNat).toNat (mi_a h 129 F.toNat)
      rw [rv_as_ra]
      exact List.mem_map.mpr ⟨_, (ra_mem _ _).mpr ⟨j, by omega, rfl⟩, rfl⟩
  refine ⟨fun F k => px_bit (X.2.1 F.toNat) k && B k, fun a k => px_bit (sa_s X (rv_l (mi_a h) a)) k && B k, ?_, ?_, ?_, ?_⟩
  · -- parts
    intro u k u0 u1 hk
    have hk : (px_bit (mx_b h 134 u.toNat) k && B k) = true := hk
    rw [Bool.and_eq_true] at hk
    obtain ⟨hk, hB⟩ := hk
    rw [(s4 u u0 (by omega)).2] at hk
    obtain ⟨-, -, -, k9, k10, -⟩ := hL.1.2.2.1 u u0 u1
    have e1 : (rv_p (mi_a h) u).1 = rv_t (mi_a h) u := rfl
    have e5 : (rv_p (mi_a h) u).2.2.2.2 = pb_s (mi_a h 119 u.toNat) (mi_a h 120 u.toNat) := rfl
    unfold sp_s at hk
    rw [e1, e5] at hk
    refine ⟨fun c9 => ?_, fun c10 => ?_, ?_⟩
    · obtain ⟨-, -, -, -, r1, -⟩ := k9 c9
      have et : rv_t (mi_a h) u = wk_rf (mi_a h) u := by
        unfold rv_t wk_rf
        rw [if_neg (show ¬ mi_a h 119 u.toNat = 10 by omega), if_pos c9]
      rw [et, if_pos r1] at hk
      show (px_bit (X.2.1 (wk_rf (mi_a h) u).toNat) k && B k) = true
      rw [Bool.and_eq_true]
      exact ⟨hk, hB⟩
    · obtain ⟨r1, -⟩ := k10 c10
      have et : rv_t (mi_a h) u = mi_a h 120 u.toNat := by
        unfold rv_t
        rw [if_pos c10]
      rw [et, if_pos r1] at hk
      show (px_bit (X.2.1 (mi_a h 120 u.toNat).toNat) k && B k) = true
      rw [Bool.and_eq_true]
      exact ⟨hk, hB⟩
    · by_cases c10 : mi_a h 119 u.toNat = 10
      · exact Or.inr (Or.inr (Or.inr (Or.inr c10)))
      by_cases c9 : mi_a h 119 u.toNat = 9
      · exact Or.inr (Or.inr (Or.inr (Or.inl c9)))
      have et : rv_t (mi_a h) u = -1 := by
        unfold rv_t
        rw [if_neg c10, if_neg c9]
      rw [et, if_neg (show ¬ (0 : Int) ≤ -1 by decide)] at hk
      unfold pb_s at hk
      by_cases c1 : mi_a h 119 u.toNat = 1
      · exact Or.inl c1
      by_cases c2 : mi_a h 119 u.toNat = 2
      · exact Or.inr (Or.inl c2)
      by_cases c8 : mi_a h 119 u.toNat = 8
      · exact Or.inr (Or.inr (Or.inl c8))
      rw [if_neg c1, if_neg c2, if_neg c8] at hk
      have := ((px_bit_t _ _).mp hk).2
      have this : tb 0 (shn k) = true := this
      rw [tb_0] at this
      cases this
  · -- forms
    intro F k F0 F1 hk
    have hk : (px_bit (X.2.1 F.toNat) k && B k) = true := hk
    rw [Bool.and_eq_true] at hk
    obtain ⟨hk, hB⟩ := hk
    obtain ⟨k0, hk⟩ := (px_bit_t _ _).mp hk
    rw [← (s3 F.toNat (by omega)).2.1] at hk
    obtain ⟨us, u1, u2⟩ := sf_tb _ hk
    have u1 : us ∈ rv_as (mi_a h) (mi_a h 130 F.toNat).toNat (mi_a h 129 F.toNat) := u1
    rw [rv_as_ra] at u1
    obtain ⟨a, a1, a2⟩ := List.mem_map.mp u1
    obtain ⟨j, j1, j2⟩ := (ra_mem _ _).mp a1
    refine ⟨j, by omega, ?_⟩
    show (px_bit (sa_s X (rv_l (mi_a h) (wk_alt (mi_a h) j (mi_a h 129 F.toNat)))) k && B k) = true
    rw [Bool.and_eq_true]
    refine ⟨(px_bit_t _ _).mpr ⟨k0, ?_⟩, hB⟩
    rw [← j2, a2]
    exact u2
  · -- alternatives
    intro F k j F0 F1 hj hk
    have hk : (px_bit (sa_s X (rv_l (mi_a h) (wk_alt (mi_a h) j (mi_a h 129 F.toNat)))) k && B k) = true := hk
    rw [Bool.and_eq_true] at hk
    obtain ⟨hk, hB⟩ := hk
    obtain ⟨k0, hk⟩ := (px_bit_t _ _).mp hk
    obtain ⟨⟨a0, a1⟩, am⟩ := alt_in F j F0 F1 hj
    refine ⟨?_, ?_⟩
    · show (px_bit (px_dir (mi_a h 132 (wk_alt (mi_a h) j (mi_a h 129 F.toNat)).toNat) (mx_b h 135 (wk_alt (mi_a h) j (mi_a h 129 F.toNat)).toNat) (mx_b h 138 F.toNat)) k && B k) = true
      rw [Bool.and_eq_true]
      refine ⟨(px_bit_t _ _).mpr ⟨k0, ?_⟩, hB⟩
      obtain ⟨-, y2, -⟩ := s6 _ a0 a1
      have ok := (GO F.toNat (by omega) _ am).1
      obtain ⟨-, t2⟩ := sa_vs s5 ok
      rw [y2, t2]
      unfold px_dir
      split
      · rw [tb_or, hk]; rfl
      · rw [tb_or, hk]; rfl
    · obtain ⟨p, p1, p2⟩ := sa_tb _ hk
      have p1 : p ∈ (wk_row (mi_a h) 61 (mi_a h 126 (wk_alt (mi_a h) j (mi_a h 129 F.toNat)).toNat)).map (rv_p (mi_a h)) := p1
      obtain ⟨w, w1, w2⟩ := List.mem_map.mp p1
      obtain ⟨oo, ho⟩ := row_it 61 _ w1
      have fc := (fr_c hL.1 (F := F.toNat) (u := w) (by omega) ⟨j, hj, w1⟩).1
      refine ⟨w, oo, ho, fc.1, fc.2, ?_⟩
      show (px_bit (mx_b h 134 w.toNat) k && B k) = true
      rw [Bool.and_eq_true]
      refine ⟨(px_bit_t _ _).mpr ⟨k0, ?_⟩, hB⟩
      rw [(s4 w fc.1 (by omega)).2, w2]
      exact p2
  · -- no director twice
    intro F k i j F0 F1 hi hj hk1 hk2
    have hk1 : (px_bit (px_dir (mi_a h 132 (wk_alt (mi_a h) i (mi_a h 129 F.toNat)).toNat) (mx_b h 135 (wk_alt (mi_a h) i (mi_a h 129 F.toNat)).toNat) (mx_b h 138 F.toNat)) k && B k) = true := hk1
    have hk2 : (px_bit (px_dir (mi_a h 132 (wk_alt (mi_a h) j (mi_a h 129 F.toNat)).toNat) (mx_b h 135 (wk_alt (mi_a h) j (mi_a h 129 F.toNat)).toNat) (mx_b h 138 F.toNat)) k && B k) = true := hk2
    rw [Bool.and_eq_true, pxd_jd] at hk1 hk2
    have t1 := ((px_bit_t _ _).mp hk1.1).2
    have t2 := ((px_bit_t _ _).mp hk2.1).2
    have hn : ∀ x, ¬ k8l (jd h F.toNat) (mi_a h 127) (ra_l (mi_a h) (mi_a h 130 F.toNat).toNat (mi_a h 129 F.toNat)) 0 x := fun x q => hz0 x ⟨F.toNat, by omega, q⟩
    obtain ⟨-, d2⟩ := k8_dis _ _ _ hn
    rcases Nat.lt_trichotomy i j with c | c | c
    · exact (d2 i j (shn k) c (by omega) t1 t2).elim
    · exact c
    · exact (d2 j i (shn k) c (by omega) t2 t1).elim
theorem pmx_of (hT : TW f ow g Y h) (hn : NE0 g) : pm_x Y := by
  obtain ⟨hS, hq, hC, hP, hI, hV, hW, hZ, hL, hA⟩ := id hT
  intro F F0 F1
  have ef : wk_f Y = g 0 2 := hL.2.2.1.trans hq.1.2.2.1.symm
  obtain ⟨-, -, d3, -, -, d5⟩ := hL.1.2.2.2 F F0 F1
  have e130 : mi_a h 130 = g 130 := rk_g2 hq (by decide)
  have e129 : mi_a h 129 = g 129 := rk_g2 hq (by decide)
  have e126 : mi_a h 126 = g 126 := rk_g2 hq (by decide)
  obtain ⟨a0, -, a2⟩ := d5 0 (by omega)
  have al := altr hq hW hL (F := F.toNat) (by omega) 0 (by rw [← e130]; omega)
  have a0 : 0 ≤ mi_a h 129 F.toNat := a0
  have a2 : mi_a h 126 (mi_a h 129 F.toNat).toNat < 0 ∨ (mi_a h 126 (mi_a h 129 F.toNat).toNat < wk_u Y ∧ wk_c Y (mi_a h 126 (mi_a h 129 F.toNat).toNat) = F) := a2
  have al : 0 ≤ g 129 F.toNat ∧ g 129 F.toNat < g 0 1 := al
  have i0 := hn.2 (g 129 F.toNat).toNat (by omega)
  rw [← e126, ← e129] at i0
  obtain ⟨b1, b2⟩ := a2.resolve_left (by omega)
  obtain ⟨⟨c1, c2, c3, -⟩, -⟩ := hL.1.2.2.1 _ i0 b1
  rw [b2] at c2 c3
  omega
end HSO
