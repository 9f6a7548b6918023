/-! the class's sets and the reference's are the same -/
section TWP
variable {f : Int → Int} {ow : Nat → Nat} {g : wk_g} {Y : wk_Y} {h : sm_H}
theorem TW_l (hq : RQ g h) (hC : TC f ow g h) (hP : PR ow g) (hI : FI f g) (hV : PV 240 g) (hZ : rz_U g) (hL : sy_L h Y) {a : Int} (a0 : 0 ≤ a) (a1 : a < g 0 1) : (cv_l h a).map (cv_p h) = (rv_l (mi_a h) a).map (sn (fm_of f)) ∧ (mi_a h 65 a.toNat = -1 ∨ (0 ≤ mi_a h 65 a.toNat ∧ mi_a h 65 a.toNat < g 0 0)) := by
  have hU := TW_u hq hC hP hI hV hZ hL
  have hU60 := hU.1
  have r126 := TW_g hq (r := 126) (by decide)
  obtain ⟨x1, x2⟩ := hC.2.2.1 a.toNat (by omega)
  obtain ⟨⟨q1, q2⟩, q3⟩ := hP.2.2.1 a.toNat (by omega)
  have rng : mi_a h 65 a.toNat = -1 ∨ (0 ≤ mi_a h 65 a.toNat ∧ mi_a h 65 a.toNat < g 0 0) := by rw [x1]; omega
  refine ⟨?_, rng⟩
  have e : cv_l h a = wk_row (mi_a h) 61 (mi_a h 126 a.toNat) := by
    unfold cv_l
    rw [r126, ← x1]
    refine TW_row hq hC hP hL hU 61 _ ?_ (fun q => by omega)
    rw [x1]
    by_cases c : g 126 a.toNat = -1
    · exact Or.inl c
    · exact Or.inr ⟨⟨by omega, q2⟩, q3 (by omega)⟩
  unfold rv_l
  rw [List.map_map, ← e]
  refine List.map_congr_left (fun u hu => ?_)
  obtain ⟨u0, u1⟩ := cv_row_in hU 60 _ rng u hu
  exact TW_p hq hC hI hV hZ u0 u1
theorem TW_as (hq : RQ g h) (hC : TC f ow g h) (hP : PR ow g) (hI : FI f g) (hV : PV 240 g) (hZ : rz_U g) (hL : sy_L h Y) (hA : g 0 1 ≤ g 0 0) : ∀ (m : Nat) (a : Int), (∀ j : Nat, j < m → 0 ≤ wk_alt (mi_a h) j a ∧ wk_alt (mi_a h) j a < g 0 1) → (cv_as h m a).map (fun a => (cv_l h a).map (cv_p h)) = (rv_as (mi_a h) m a).map (List.map (sn (fm_of f))) ∧ cv_al h (g 0 0) m a := by
  have r128 := TW_g hq (r := 128) (by decide)
  have hU60 := hP.1.1.2
  intro m
  induction m with
  | zero => intro a _; exact ⟨rfl, trivial⟩
  | succ m ih =>
    intro a ha
    obtain ⟨a0, a1⟩ := ha 0 (Nat.zero_lt_succ _)
    have a0 : 0 ≤ a := a0
    have a1 : a < g 0 1 := a1
    obtain ⟨e1, e2⟩ := TW_l hq hC hP hI hV hZ hL a0 a1
    obtain ⟨x1, x2⟩ := hC.2.2.1 a.toNat (by omega)
    have e128 : mi_a h 66 a.toNat = mi_a h 128 a.toNat := by rw [x2, r128]
    obtain ⟨i1, i2⟩ := ih (mi_a h 128 a.toNat) (fun j hj => ha (j + 1) (by omega))
    refine ⟨?_, ⟨⟨a0, by omega⟩, e2, ?_⟩⟩
    · rw [rv_as_c, List.map_cons, ← e1, ← i1, ← e128]
      rfl
    · rw [e128]
      exact i2
theorem TW_alt (hq : RQ g h) (hW : PW g) (hL : sy_L h Y) {F : Nat} (hF : (F : Int) < g 0 2) : ∀ j : Nat, (j : Int) < mi_a h 130 F → 0 ≤ wk_alt (mi_a h) j (mi_a h 129 F) ∧ wk_alt (mi_a h) j (mi_a h 129 F) < g 0 1 := by
  have r128 := TW_g hq (r := 128) (by decide)
  have r129 := TW_g hq (r := 129) (by decide)
  have hF' : (F : Int) < wk_f Y := by rw [hL.2.2.1, ← hq.1.2.2.1]; exact hF
  obtain ⟨-, -, c1, c2, -, c3⟩ := hL.1.2.2.2 F (by omega) hF'
  intro j
  induction j with
  | zero =>
    intro hj
    have := (c3 0 hj).1
    have this : 0 ≤ mi_a h 129 F := this
    refine ⟨this, ?_⟩
    show mi_a h 129 F < _
    rw [r129]
    exact (hW.2.2.2 F hF).2
  | succ j ih =>
    intro hj
    obtain ⟨i0, i1⟩ := ih (by omega)
    refine ⟨(c3 (j + 1) hj).1, ?_⟩
    rw [wk_alt_succ, r128]
    exact (hW.2.2.1 _ (by omega)).2
theorem TW_A (hq : RQ g h) (hW : PW g) (hL : sy_L h Y) : sy_A h := fun F hF j hj => by
  rw [← hq.1.2.2.1] at hF
  rw [← hq.1.2.1]
  exact (TW_alt hq hW hL hF j hj).2
/-- the class's rows are fine, where some read of the reference gave the same -/
theorem CV_F {h2 : sm_H} (hq : RQ g h2) (hC : TC f ow g h) (hP : PR ow g) (hI : FI f g) (hV : PV 240 g) (hW : PW g) (hZ : rz_U g) (hL : sy_L h2 Y) (hA : g 0 1 ≤ g 0 0) : cv_F h (g 0 0) := by
  have hU := TW_u hq hC hP hI hV hZ hL
  have r128 := TW_g hq (r := 128) (by decide)
  have r129 := TW_g hq (r := 129) (by decide)
  have r130 := TW_g hq (r := 130) (by decide)
  obtain ⟨⟨b0, b1, b2, b3, b4⟩, -, q7, q8⟩ := id hP
  have al : ∀ (m : Nat) (a : Int), (∀ j : Nat, j < m → 0 ≤ wk_alt (mi_a h2) j a ∧ wk_alt (mi_a h2) j a < g 0 1) → cv_al h (g 0 0) m a := by
    intro m
    induction m with
    | zero => intro a _; trivial
    | succ m ih =>
      intro a ha
      obtain ⟨a0, a1⟩ := ha 0 (Nat.zero_lt_succ _)
      have a0 : 0 ≤ a := a0
      have a1 : a < g 0 1 := a1
      obtain ⟨x1, x2⟩ := hC.2.2.1 a.toNat (by omega)
      obtain ⟨⟨p1, p2⟩, -⟩ := q7 a.toNat (by omega)
      refine ⟨⟨a0, by omega⟩, by rw [x1]; omega, ?_⟩
      rw [x2, ← r128]
      exact ih _ (fun j hj => ha (j + 1) (by omega))
  refine ⟨hU, fun F hF => ?_⟩
  by_cases c : ∃ x : Nat, (x : Int) < g 0 2 ∧ fm_of f x = F
  · obtain ⟨x, hx, rfl⟩ := c
    obtain ⟨x1, x2⟩ := hC.1 x hx
    have q := q8 x hx
    have e1 : cv_n h (fm_of f x) = (mi_a h2 130 x).toNat := by
      unfold cv_n fm_of
      rw [x2, r130]
      omega
    have e2 : mi_a h 63 (fm_of f x) = mi_a h2 129 x := by
      unfold fm_of
      rw [x1, r129]
    rw [e1, e2]
    exact al _ _ (fun j hj => TW_alt hq hW hL hx j (by omega))
  · have : cv_n h F = 0 := by
      unfold cv_n
      rw [hC.2.1 F hF (fun x hx q => c ⟨x, hx, by unfold fm_of; rw [q]; rfl⟩)]
      rfl
    rw [this]
    trivial
theorem TW_two (hT : TW f ow g Y h) : sg_two (mi_f h 13965).toNat 70 (fm_of f) (GR (mi_a h)) (GC h) ∧ cv_F h (g 0 0) := by
  obtain ⟨hS, hq, hCU, hP, hI, hV, hW, hZ, hL, hA⟩ := hT
  have hC := hCU
  have r129 := TW_g hq (r := 129) (by decide)
  have r130 := TW_g hq (r := 130) (by decide)
  have e65 : mi_f h 13965 = g 0 2 := hq.1.2.2.1.symm
  obtain ⟨⟨b0, b1, b2, b3, b4⟩, -, -, q8⟩ := id hP
  have hU := TW_u hq hC hP hI hV hZ hL
  have form : ∀ F : Nat, (F : Int) < g 0 2 → fm_of f F < 70 ∧ cv_n h (fm_of f F) = (mi_a h 130 F).toNat ∧ mi_a h 63 (fm_of f F) = mi_a h 129 F := by
    intro F hF
    have k := hI.2.2.2 F (by omega) hF
    obtain ⟨x1, x2⟩ := hC.1 F hF
    have q := q8 F hF
    refine ⟨by unfold fm_of; omega, ?_, ?_⟩
    · unfold cv_n fm_of
      rw [x2, r130]
      omega
    · unfold fm_of
      rw [x1, r129]
  have all : ∀ F : Nat, (F : Int) < g 0 2 → GC h (fm_of f F) = (GR (mi_a h) F).map (List.map (sn (fm_of f))) ∧ cv_al h (g 0 0) (cv_n h (fm_of f F)) (mi_a h 63 (fm_of f F)) := by
    intro F hF
    obtain ⟨f1, f2, f3⟩ := form F hF
    have A := TW_as hq hC hP hI hV hZ hL hA (mi_a h 130 F).toNat (mi_a h 129 F) (fun j hj => TW_alt hq hW hL hF j (by omega))
    refine ⟨?_, ?_⟩
    · unfold GC GR
      rw [f2, f3]
      exact A.1
    · rw [f2, f3]
      exact A.2
  have inj : ∀ F F' : Nat, (F : Int) < g 0 2 → (F' : Int) < g 0 2 → fm_of f F = fm_of f F' → F = F' := by
    intro F F' hF hF' e
    have k := hI.2.2.2 F (by omega) hF
    have k' := hI.2.2.2 F' (by omega) hF'
    unfold fm_of at e
    have := hI.2.2.1 F F' (by omega) hF (by omega) hF' (by omega)
    omega
  have no : ∀ j : Nat, j < 70 → (∀ F : Nat, (F : Int) < g 0 2 → fm_of f F ≠ j) → cv_n h j = 0 := by
    intro j hj hn
    unfold cv_n
    rw [hC.2.1 j hj (fun x hx q => hn x hx (by unfold fm_of; rw [q]; rfl))]
    rfl
  refine ⟨⟨fun F hF => ?_, fun F F' hF hF' => inj F F' (by omega) (by omega), fun j hj hn => ?_⟩, hU, fun F hF => ?_⟩
  · have hF' : (F : Int) < g 0 2 := by omega
    exact ⟨(form F hF').1, (all F hF').1⟩
  · have := no j hj (fun F hF => hn F (by omega))
    unfold GC
    rw [this]
    rfl
  · by_cases c : ∃ x : Nat, (x : Int) < g 0 2 ∧ fm_of f x = F
    · obtain ⟨x, hx, rfl⟩ := c
      exact (all x hx).2
    · rw [no F hF (fun x hx q => c ⟨x, hx, q⟩)]
      trivial
end TWP
/-- the rules' answers are the same -/
def SR (h : sm_H) : Prop := ∀ r : Nat, (r : Int) < mi_f h 13961 → (0 ≤ mi_a h 114 r ∧ mi_a h 114 r < 80) ∧ mi_a h 79 r = mi_a h 133 (mi_a h 114 r).toNat ∧ mx_b h 80 r = mx_b h 136 (mi_a h 114 r).toNat ∧ mi_a h 82 r = mi_a h 144 (mi_a h 114 r).toNat ∧ mx_b h 81 r = mx_b h 138 (mi_a h 114 r).toNat
theorem SR_of {f : Int → Int} {ow : Nat → Nat} {g : wk_g} {Y : wk_Y} {h : sm_H} (hT : TW f ow g Y h) (h1 : 1 ≤ g 0 3) {j k j' k' : Nat} {W W' : sp_F} (c1 : sp_eq 70 (cX h) (sps_k (GC h) 70 j)) (c2 : sp_fix 70 (GC h) (sps_k (GC h) 70 j)) (c3 : ∀ i : Nat, i < 70 → W i = if i = 0 then 1 else 0) (c4 : ∀ i : Nat, mx_b h 81 i = sk_k (sps_k (GC h) 70 j) (GC h) 70 W k i) (c5 : sw_sol (sps_k (GC h) 70 j) 70 (GC h) (sk_k (sps_k (GC h) 70 j) (GC h) 70 W k)) (r1 : sp_eq (mi_f h 13965).toNat (rX h) (sr_k (GR (mi_a h)) j')) (r2 : sp_fix (mi_f h 13965).toNat (GR (mi_a h)) (sr_k (GR (mi_a h)) j')) (r3 : ∀ i : Nat, (i : Int) < mi_f h 13965 → W' i = if (i : Int) = mi_a h 114 0 then 1 else 0) (r4 : ∀ i : Nat, mx_b h 138 i = sk_k (sr_k (GR (mi_a h)) j') (GR (mi_a h)) (mi_f h 13965).toNat W' k' i) (r5 : sw_sol (sr_k (GR (mi_a h)) j') (mi_f h 13965).toNat (GR (mi_a h)) (sk_k (sr_k (GR (mi_a h)) j') (GR (mi_a h)) (mi_f h 13965).toNat W' k')) : SR h := by
  obtain ⟨T, hF⟩ := TW_two hT
  obtain ⟨hS, hq, hCU, hP, hI, hV, hW, hZ, hL, hA⟩ := hT
  have hC := hCU
  have e65 : mi_f h 13965 = g 0 2 := hq.1.2.2.1.symm
  have e61 : mi_f h 13961 = g 0 3 := hq.1.2.2.2.1.symm
  have r114 := TW_g hq (r := 114) (by decide)
  have GO := sy_OK hL (TW_A hq hW hL)
  have CO := cv_OK hF
  have S := sg_same GO CO T r2 c2
  have fr : ∀ r : Nat, (r : Int) < g 0 3 → (0 ≤ g 114 r ∧ g 114 r < g 0 2) ∧ fm_of f (g 114 r).toNat = r := by
    intro r hr
    obtain ⟨x1, x2⟩ := hI.1 r hr
    refine ⟨x1, ?_⟩
    unfold fm_of
    rw [Int.toNat_of_nonneg x1.1, x2]
    rfl
  have f0 := fr 0 (by omega)
  have SW := sg_sameW GO CO T S (WR := W') (WC := W) (k := k') (k' := k) (fun F hF' => by
    have k1 := (T.1 F hF').1
    rw [c3 _ k1, r3 F (by omega), r114]
    by_cases c : (F : Int) = g 114 0
    · rw [if_pos c, if_pos]
      have : F = (g 114 0).toNat := by omega
      rw [this]
      exact f0.2
    · rw [if_neg c, if_neg]
      intro q
      refine c ?_
      have := T.2.1 F (g 114 0).toNat hF' (by omega) (q.trans f0.2.symm)
      omega) (fun i hi hn => by
    rw [c3 i hi, if_neg]
    intro q
    exact hn (g 114 0).toNat (by omega) (by rw [q]; exact f0.2)) r5 c5
  intro r hr
  rw [e61] at hr
  obtain ⟨x1, x2⟩ := fr r hr
  have b80 := me_fb (c := 13965) hS rfl
  have lt : (g 114 r).toNat < (mi_f h 13965).toNat := by omega
  have r70 := (T.1 _ lt).1
  rw [x2] at r70
  obtain ⟨s1, s2, s3⟩ := S _ lt
  obtain ⟨t1, t2, t3⟩ := r1 _ lt
  obtain ⟨u1, u2, u3⟩ := c1 r r70
  have s4 := SW _ lt
  rw [x2] at s4
  have s1 : (sr_k (GR (mi_a h)) j').1 (g 114 r).toNat = (sps_k (GC h) 70 j).1 (fm_of f (g 114 r).toNat) := s1
  have s2 : (sr_k (GR (mi_a h)) j').2.1 (g 114 r).toNat = (sps_k (GC h) 70 j).2.1 (fm_of f (g 114 r).toNat) := s2
  have s3 : (sr_k (GR (mi_a h)) j').2.2 (g 114 r).toNat = (sps_k (GC h) 70 j).2.2 (fm_of f (g 114 r).toNat) := s3
  rw [x2] at s1 s2 s3
  rw [r114]
  refine ⟨⟨x1.1, by omega⟩, ?_, ?_, ?_, ?_⟩
  · exact u1.trans (s1.symm.trans t1.symm)
  · exact u2.trans (s2.symm.trans t2.symm)
  · exact u3.trans (s3.symm.trans t3.symm)
  · rw [c4, r4]
    exact s4.symm
