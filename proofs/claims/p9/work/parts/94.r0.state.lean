/-! READING, the program: what holds while a rule is read -/
section RSC
variable {g g' : wk_g} {Y : wk_Y} {z : rd_Z} {m : Int}
/-- nothing that the invariant speaks of has changed -/
theorem rd_cg (hI : rd_I g Y z m) (s : ∀ j, j ∈ [119, 120, 124, 125, 126, 128, 129, 130, 146, 147, 148, 149, 150, 151] → ∀ i, g' j i = g j i) : rd_I g' Y z m := by
  obtain ⟨nn, i1, i2, i3, i4, i5⟩ := hI
  have e119 := s 119 (by decide)
  have e120 := s 120 (by decide)
  have e124 := s 124 (by decide)
  have e125 := s 125 (by decide)
  have e126 := s 126 (by decide)
  have e128 := s 128 (by decide)
  have e129 := s 129 (by decide)
  have e130 := s 130 (by decide)
  have e146 := s 146 (by decide)
  have e147 := s 147 (by decide)
  have e148 := s 148 (by decide)
  have e149 := s 149 (by decide)
  have e150 := s 150 (by decide)
  have e151 := s 151 (by decide)
  have alts : ∀ n a, wk_alt g' n a = wk_alt g n a := by
    intro n
    induction n with
    | zero => intro a; rfl
    | succ n ih =>
      intro a
      show wk_alt g' n (g' 128 a.toNat) = wk_alt g n (g 128 a.toNat)
      rw [e128, ih]
  refine ⟨nn, fun w h0 h1 => ?_, fun f h0 h1 => ?_, fun a h0 h1 => ?_, fun i h0 h1 => ?_, fun i h0 h1 => ?_⟩
  · have := i1 w h0 h1
    unfold rd_unit at this ⊢
    simp only [e119, e120, e124, e125]
    exact this
  · have := i2 f h0 h1
    unfold rd_form at this ⊢
    simp only [e129, e130, e146, alts]
    exact this
  · have := i3 a h0 h1
    unfold rd_alt at this ⊢
    rw [e126]
    exact this
  · have := i4 i h0 h1
    have etop : rd_top g' Y z i = rd_top g Y z i := by
      unfold rd_top
      rw [e148]
    unfold rd_lev at this ⊢
    simp only [e124, e125, e129, e130, e146, e147, e148, e149, e150, e151, etop, alts]
    exact this
  · have := i5 i h0 h1
    unfold rd_grp at this ⊢
    simp only [e119, e120, e124, e125, e146, e148]
    exact this
/-- a unit's word changes, where nothing speaks of it -/
theorem rd_word {U : Int} (hI : rd_I g Y z m) (s : ∀ j, j ∈ [119, 124, 125, 126, 128, 129, 130, 146, 147, 148, 149, 150, 151] → ∀ i, g' j i = g j i) (h120 : ∀ i : Nat, i ≠ U.toNat → g' 120 i = g 120 i) (n8 : g 119 U.toNat ≠ 8) (n9 : g 119 U.toNat ≠ 9) (n10 : g 119 U.toNat ≠ 10) : rd_I g' Y z m := by
  obtain ⟨nn, i1, i2, i3, i4, i5⟩ := hI
  have e119 := s 119 (by decide)
  have e124 := s 124 (by decide)
  have e125 := s 125 (by decide)
  have e126 := s 126 (by decide)
  have e128 := s 128 (by decide)
  have e129 := s 129 (by decide)
  have e130 := s 130 (by decide)
  have e146 := s 146 (by decide)
  have e147 := s 147 (by decide)
  have e148 := s 148 (by decide)
  have e149 := s 149 (by decide)
  have e150 := s 150 (by decide)
  have e151 := s 151 (by decide)
  have alts : ∀ n a, wk_alt g' n a = wk_alt g n a := by
    intro n
    induction n with
    | zero => intro a; rfl
    | succ n ih =>
      intro a
      show wk_alt g' n (g' 128 a.toNat) = wk_alt g n (g 128 a.toNat)
      rw [e128, ih]
  refine ⟨nn, fun w h0 h1 => ?_, fun f h0 h1 => ?_, fun a h0 h1 => ?_, fun i h0 h1 => ?_, fun i h0 h1 => ?_⟩
  · obtain ⟨u1, u2, u3, u4, u5, u6⟩ := i1 w h0 h1
    unfold rd_unit
    simp only [e119, e124, e125]
    by_cases c : w.toNat = U.toNat
    · refine ⟨u1, u2, u3, fun x => ?_, fun x => ?_, fun x => ?_⟩
      · rw [c] at x; exact absurd x n9
      · rw [c] at x; exact absurd x n10
      · rw [c] at x; exact absurd x n8
    · rw [h120 _ c]
      exact ⟨u1, u2, u3, u4, u5, u6⟩
  · have := i2 f h0 h1
    unfold rd_form at this ⊢
    simp only [e129, e130, e146, alts]
    exact this
  · have := i3 a h0 h1
    unfold rd_alt at this ⊢
    rw [e126]
    exact this
  · have := i4 i h0 h1
    have etop : rd_top g' Y z i = rd_top g Y z i := by
      unfold rd_top
      rw [e148]
    unfold rd_lev at this ⊢
    simp only [e124, e125, e129, e130, e146, e147, e148, e149, e150, e151, etop, alts]
    exact this
  · obtain ⟨x1, x2, x3, x4, x5, x6⟩ := i5 i h0 h1
    have c : (g 148 i.toNat).toNat ≠ U.toNat := fun e => by rw [e] at x4; exact n10 x4
    unfold rd_grp
    simp only [e119, e124, e125, e146, e148]
    rw [h120 _ c]
    exact ⟨x1, x2, x3, x4, x5, x6⟩
end RSC
/-- the rules that are there -/
def rs_P (h : sm_H) : Prop := ∀ u, 0 ≤ u → u < mi_f h 13963 → 0 ≤ mi_a h 121 u.toNat ∧ mi_a h 121 u.toNat ≤ 241
def rs_R (h : sm_H) (Y : wk_Y) : Prop := (∀ r, 0 ≤ r → r < mi_f h 13961 → wk_Lrule Y (mi_a h 114 r.toNat)) ∧ (∀ n : Nat, n < 26 → mi_a h 115 n < mi_f h 13961) ∧ rs_P h
/-- between rules; q: how many alternatives may still come before a part -/
def rs_B (h : sm_H) (Y : wk_Y) (z : rd_Z) (q : Int) : Prop :=
  rd_I (mi_a h) Y z 1 ∧ wk_u Y = mi_f h 13963 ∧ wk_f Y = mi_f h 13965 ∧ rd_a z = mi_f h 13964 ∧ mi_f h 13964 + q ≤ mi_f h 13963 + mi_f h 13961 ∧ mi_f h 13965 ≤ mi_f h 13963 + mi_f h 13961 ∧ rs_R h Y ∧ ∀ f, 0 ≤ f → f < mi_f h 13965 → mi_a h 130 f.toNat ≤ 6
/-- within a rule -/
def rs_I (h : sm_H) (Y : wk_Y) (z : rd_Z) (q : Int) : Prop := rs_B h Y z q ∧ rd_k z = mi_f h 14003 ∧ wk_b Y (mi_a h 146 0) < wk_u Y
def rs_c : List Nat := [13961, 13963, 13964, 13965, 14003, 14592, 14720, 15232, 15360, 15488, 15872, 16000, 16128, 16384, 16512, 16640, 18688, 18816, 18944, 19072, 19200, 19328]
section RSF
variable {h h' : sm_H} {Y : wk_Y} {z : rd_Z} {q : Int} {wr : List (Nat × Nat)}
theorem rs_fr (hI : rs_I h Y z q) (hS : ab_Sh sx_sk h) (hF : ab_Fr wr h h') (hw : rs_c.all (fun c => !ab_in wr c) = true) : rs_I h' Y z q := by
  have n : ∀ c, c ∈ rs_c → ab_in wr c = false := fun c hc => by
    have := List.all_eq_true.mp hw c hc
    rwa [Bool.not_eq_true'] at this
  obtain ⟨⟨i1, i2, i3, i4, i5, i6, ⟨i7, i8, i8p⟩, i9⟩, i10, i11⟩ := hI
  have f61 : mi_f h' 13961 = mi_f h 13961 := me_f hF hS rfl (n _ (by decide))
  have f63 : mi_f h' 13963 = mi_f h 13963 := me_f hF hS rfl (n _ (by decide))
  have f64 : mi_f h' 13964 = mi_f h 13964 := me_f hF hS rfl (n _ (by decide))
  have f65 : mi_f h' 13965 = mi_f h 13965 := me_f hF hS rfl (n _ (by decide))
  have f3 : mi_f h' 14003 = mi_f h 14003 := me_f hF hS rfl (n _ (by decide))
  have a114 : ∀ i, mi_a h' 114 i = mi_a h 114 i := fun i => me_a hF hS rfl (n _ (by decide))
  have a115 : ∀ i, mi_a h' 115 i = mi_a h 115 i := fun i => me_a hF hS rfl (n _ (by decide))
  have a119 : ∀ i, mi_a h' 119 i = mi_a h 119 i := fun i => me_a hF hS rfl (n _ (by decide))
  have a120 : ∀ i, mi_a h' 120 i = mi_a h 120 i := fun i => me_a hF hS rfl (n _ (by decide))
  have a121 : ∀ i, mi_a h' 121 i = mi_a h 121 i := fun i => me_a hF hS rfl (n _ (by decide))
  have a124 : ∀ i, mi_a h' 124 i = mi_a h 124 i := fun i => me_a hF hS rfl (n _ (by decide))
  have a125 : ∀ i, mi_a h' 125 i = mi_a h 125 i := fun i => me_a hF hS rfl (n _ (by decide))
  have a126 : ∀ i, mi_a h' 126 i = mi_a h 126 i := fun i => me_a hF hS rfl (n _ (by decide))
  have a128 : ∀ i, mi_a h' 128 i = mi_a h 128 i := fun i => me_a hF hS rfl (n _ (by decide))
  have a129 : ∀ i, mi_a h' 129 i = mi_a h 129 i := fun i => me_a hF hS rfl (n _ (by decide))
  have a130 : ∀ i, mi_a h' 130 i = mi_a h 130 i := fun i => me_a hF hS rfl (n _ (by decide))
  have a146 : ∀ i, mi_a h' 146 i = mi_a h 146 i := fun i => me_a hF hS rfl (n _ (by decide))
  have a147 : ∀ i, mi_a h' 147 i = mi_a h 147 i := fun i => me_a hF hS rfl (n _ (by decide))
  have a148 : ∀ i, mi_a h' 148 i = mi_a h 148 i := fun i => me_a hF hS rfl (n _ (by decide))
  have a149 : ∀ i, mi_a h' 149 i = mi_a h 149 i := fun i => me_a hF hS rfl (n _ (by decide))
  have a150 : ∀ i, mi_a h' 150 i = mi_a h 150 i := fun i => me_a hF hS rfl (n _ (by decide))
  have a151 : ∀ i, mi_a h' 151 i = mi_a h 151 i := fun i => me_a hF hS rfl (n _ (by decide))
  unfold rs_I rs_B rs_R rs_P
  simp only [f61, f63, f64, f65, f3, a114, a115, a121, a130, a146]
  refine ⟨⟨rd_cg i1 (fun j hj i => ?_), i2, i3, i4, i5, i6, ⟨i7, i8, i8p⟩, i9⟩, i10, i11⟩
  simp only [List.mem_cons, List.not_mem_nil, or_false] at hj
  rcases hj with rfl | rfl | rfl | rfl | rfl | rfl | rfl | rfl | rfl | rfl | rfl | rfl | rfl | rfl
  · exact a119 i
  · exact a120 i
  · exact a124 i
  · exact a125 i
  · exact a126 i
  · exact a128 i
  · exact a129 i
  · exact a130 i
  · exact a146 i
  · exact a147 i
  · exact a148 i
  · exact a149 i
  · exact a150 i
  · exact a151 i
/-- what the top level gives -/
theorem rs_lev (hI : rs_I h Y z q) (hS : ab_Sh sx_sk h) : (0 ≤ mi_f h 14003 ∧ mi_f h 14003 ≤ 4) ∧ (0 ≤ mi_a h 146 (mi_f h 14003).toNat ∧ mi_a h 146 (mi_f h 14003).toNat < 80 ∧ mi_a h 146 (mi_f h 14003).toNat < mi_f h 13965) ∧ 1 ≤ mi_a h 130 (mi_a h 146 (mi_f h 14003).toNat).toNat ∧ (0 ≤ mi_a h 147 (mi_f h 14003).toNat ∧ mi_a h 147 (mi_f h 14003).toNat < 80) ∧ (mi_a h 151 (mi_f h 14003).toNat ≠ 0 → 0 ≤ mi_a h 149 (mi_f h 14003).toNat) ∧ mi_a h 149 (mi_f h 14003).toNat < 60 ∧ mi_a h 150 (mi_f h 14003).toNat < 60 ∧ wk_b Y (mi_a h 146 (mi_f h 14003).toNat) < wk_u Y := by
  obtain ⟨⟨⟨nn, i1, i2, i3, i4, i5⟩, e1, e2, e3, e4, e5, e6, e7⟩, e8, e9⟩ := hI
  have b3 := me_fb (c := 14003) hS rfl
  obtain ⟨n1, n2, n3, n4, n5, n6, n7⟩ := nn
  obtain ⟨⟨t1, t2, t3, t4⟩, r2, r3, r4, r5, r6⟩ := i4 (rd_k z) (by omega) (Int.le_refl _)
  have ff := i2 _ t1 t2
  rw [if_pos ⟨by omega, rfl⟩] at ff
  have c1 := ff.2.2.1
  obtain ⟨r21, r22, -⟩ := r2 (by omega)
  rw [e8] at t1 t2 c1 r21 r22 r4 r5 r6
  refine ⟨⟨by omega, by omega⟩, ⟨t1, by omega, by omega⟩, c1, ⟨r21, by omega⟩, fun c => (r5 c).1, ?_, by omega, ?_⟩
  · by_cases c : 0 ≤ mi_a h 149 (mi_f h 14003).toNat
    · have := (r4 c).1
      omega
    · omega
  · by_cases c : mi_f h 14003 = 0
    · rw [c]
      exact e9
    · obtain ⟨x1, x2, x3, x4, x5, x6, x7, x8⟩ := i5 (mi_f h 14003) (by omega) (by omega)
      rw [x7]
      exact x2
end RSF
section RSS
variable {h : sm_H} {d : Nat}
theorem me_nvi {c : Nat} {lo hi : Int} (hv : ab_nv (1, lo, hi, []) (ab_fld h c)) : lo ≤ mi_f h c ∧ mi_f h c ≤ hi := by
  obtain ⟨x, e, l, u, -⟩ := hv
  have : mi_f h c = x.toInt := by
    unfold mi_f mx_i
    rw [e]
  rw [this]
  exact ⟨l, u⟩
theorem me_nvl {c : Nat} {lo hi : Int} (hv : ab_nv (2, lo, hi, []) (ab_fld h c)) : lo ≤ (mx_l h c).toInt ∧ (mx_l h c).toInt ≤ hi := by
  obtain ⟨x, e, l, u⟩ := hv
  have : mx_l h c = x := by
    unfold mx_l
    rw [e]
  rw [this]
  exact ⟨l, u⟩
def sn_W : List (Nat × Nat) := [(14000, 14003), (14004, 14005)]
/-- a token has been scanned -/
def sn_R (h : sm_H) : Prop := (0 ≤ mi_f h 14002 ∧ mi_f h 14002 ≤ 241) ∧ (mi_f h 14001 ≠ 0 → mi_f h 14001 ≠ 6 → mi_f h 14000 ≤ 241) ∧ (mi_f h 14001 = 2 → 0 ≤ (mx_l h 14004).toInt32.toInt ∧ (mx_l h 14004).toInt32.toInt < 26) ∧ 0 ≤ mi_f h 14001 ∧ mi_f h 14001 ≤ 126
theorem me_scan (hS : ab_Sh sx_sk h) (ha : mi_f h 14000 ≤ 241) : me_E (d + 2) 177 0 [some (.inr (.inr 109)), none, none, none] [] h (fun w h' => w = none ∧ ab_Sh sx_sk h' ∧ ab_Fr sn_W h h' ∧ sn_R h') := by
  have b0 := me_fb (c := 14000) hS rfl
  have := me_abs (M := (4, 0, sb_177)) (as := [.inr (.inr 109)]) xo_v_scan rfl hS ⟨rfl, trivial⟩ (fun e he => by
    rw [List.mem_singleton.mp he]
    exact me_nvf (c := 14000) hS rfl b0.1 ha) (by decide)
  refine (me_E.deep (d' := d + 2) this (Nat.le_add_left _ _)).imp (fun w h' hq => ?_)
  obtain ⟨q1, q2, p, pm, pr, pH⟩ := hq
  have ew : w = none := by
    unfold mi_res at pr
    rwa [if_pos rfl] at pr
  refine ⟨ew, q1, q2, ?_⟩
  have four : ∀ {a b c e : ab_V} {u : ab_V}, p = (u, [(14000, a), (14001, b), (14002, c), (14004, e)]) → ab_nv a (ab_fld h' 14000) ∧ ab_nv b (ab_fld h' 14001) ∧ ab_nv c (ab_fld h' 14002) ∧ ab_nv e (ab_fld h' 14004) := fun {a b c e u} hp => by
    subst hp
    exact ⟨pH (14000, a) (by simp), pH (14001, b) (by simp), pH (14002, c) (by simp), pH (14004, e) (by simp)⟩
  have conv : ∀ {b : Int}, 0 ≤ (mx_l h' 14004).toInt → (mx_l h' 14004).toInt ≤ b → b ≤ 25 → 0 ≤ (mx_l h' 14004).toInt32.toInt ∧ (mx_l h' 14004).toInt32.toInt < 26 := fun {b} c0 c1 c2 => by
    rw [Int64.toInt_toInt32, Int.bmod_eq_of_le (by omega) (by omega)]
    omega
  unfold sn_R
  simp only [xc_v_scan, List.mem_cons, List.not_mem_nil, or_false] at pm
  rcases pm with e | e | e | e | e | e
  all_goals
    obtain ⟨x1, x2, x3, x4⟩ := four e
    have y1 := me_nvi x1
    have y2 := me_nvi x2
    have y3 := me_nvi x3
    have y4 := me_nvl x4
    refine ⟨⟨y3.1, by omega⟩, fun _ _ => by omega, fun c => ?_, by omega, by omega⟩
    first
      | exact conv y4.1 y4.2 (by omega)
      | (exfalso; omega)
theorem me_sortOf {x : Int64} (hS : ab_Sh sx_sk h) : me_E d 189 0 [some (.inr (.inl x)), none] [] h (fun w h' => h' = h ∧ ∃ z, w = some (.inl z) ∧ -1 ≤ z ∧ z ≤ 7) := by
  have := me_abs (M := (2, 1, sb_189)) (as := [.inr (.inl x)]) xo_v_sortOf rfl hS ⟨me_nvL x, trivial⟩ (fun e he => by cases he) (by decide)
  refine (me_E.deep (d' := d) this (Nat.zero_le _)).imp (fun w h' hq => ?_)
  obtain ⟨q1, q2, p, hp, q3, -⟩ := hq
  refine ⟨me_nil q2, ?_⟩
  rcases List.mem_cons.mp hp with rfl | hp
  · exact me_resI q3 (by decide) rfl
  · cases hp
def lt_W : List (Nat × Nat) := [(13962, 13963), (14976, 14977), (15104, 15105)]
theorem me_literal (hS : ab_Sh sx_sk h) : me_E d 191 0 [some (.inr (.inr 109)), none] [] h (fun w h' => ab_Sh sx_sk h' ∧ ab_Fr lt_W h h' ∧ ∃ z, w = some (.inl z) ∧ 0 ≤ z ∧ z ≤ 20) := by
  have := me_abs (M := (2, 1, sb_191)) (as := [.inr (.inr 109)]) xo_v_literal rfl hS ⟨rfl, trivial⟩ (fun e he => by cases he) (by decide)
  refine (me_E.deep (d' := d) this (Nat.zero_le _)).imp (fun w h' hq => ?_)
  obtain ⟨q1, q2, p, hp, q3, -⟩ := hq
  refine ⟨q1, q2, ?_⟩
  rcases List.mem_cons.mp hp with rfl | hp
  · exact me_resI q3 (by decide) rfl
  · cases hp
def xc_v_isPart0 : ab_C := (188, [(3, 109, 0, [])], [(14001, (1, 0, 0, []))], [((1, 0, 0, []), [])], [], 1)
theorem xo_v_isPart0 : ab_Ok sc_P sx_sk xc_v_isPart0 := ab_good_ok (env := []) (heads := []) (fuel := 61) (by decide +kernel) (fun _ h => absurd h List.not_mem_nil)
def xc_v_isPart6 : ab_C := (188, [(3, 109, 0, [])], [(14001, (1, 6, 6, []))], [((1, 0, 0, []), [])], [], 1)
theorem xo_v_isPart6 : ab_Ok sc_P sx_sk xc_v_isPart6 := ab_good_ok (env := []) (heads := []) (fuel := 61) (by decide +kernel) (fun _ h => absurd h List.not_mem_nil)
theorem me_isPart (hS : ab_Sh sx_sk h) : me_E (d + 1) 188 0 [some (.inr (.inr 109))] [] h (fun w h' => h' = h ∧ ∃ z, w = some (.inl z) ∧ 0 ≤ z ∧ z ≤ 1 ∧ (z ≠ 0 → mi_f h 14001 ≠ 0 ∧ mi_f h 14001 ≠ 6)) := by
  by_cases c0 : mi_f h 14001 = 0
  · have := me_abs (M := (1, 4, sb_188)) (as := [.inr (.inr 109)]) xo_v_isPart0 rfl hS ⟨rfl, trivial⟩ (fun e he => by
      rw [List.mem_singleton.mp he]
      exact me_nvf (c := 14001) hS rfl (by omega) (by omega)) (by decide)
    refine (me_E.deep (d' := d + 1) this (Nat.le_add_left _ _)).imp (fun w h' hq => ?_)
    obtain ⟨q1, q2, p, hp, q3, -⟩ := hq
    refine ⟨me_nil q2, ?_⟩
    rcases List.mem_cons.mp hp with rfl | hp
    · obtain ⟨z, e, z0, z1⟩ := me_resI q3 (by decide) rfl
      have z0 : (0 : Int) ≤ z := z0
      have z1 : z ≤ 0 := z1
      exact ⟨z, e, z0, by omega, fun c => by omega⟩
    · cases hp
  by_cases c6 : mi_f h 14001 = 6
  · have := me_abs (M := (1, 4, sb_188)) (as := [.inr (.inr 109)]) xo_v_isPart6 rfl hS ⟨rfl, trivial⟩ (fun e he => by
      rw [List.mem_singleton.mp he]
      exact me_nvf (c := 14001) hS rfl (by omega) (by omega)) (by decide)
    refine (me_E.deep (d' := d + 1) this (Nat.le_add_left _ _)).imp (fun w h' hq => ?_)
    obtain ⟨q1, q2, p, hp, q3, -⟩ := hq
    refine ⟨me_nil q2, ?_⟩
    rcases List.mem_cons.mp hp with rfl | hp
    · obtain ⟨z, e, z0, z1⟩ := me_resI q3 (by decide) rfl
      have z0 : (0 : Int) ≤ z := z0
      have z1 : z ≤ 0 := z1
      exact ⟨z, e, z0, by omega, fun c => by omega⟩
    · cases hp
  have := me_abs (M := (1, 4, sb_188)) (as := [.inr (.inr 109)]) xo_v_isPart rfl hS ⟨rfl, trivial⟩ (fun e he => by cases he) (by decide)
  refine (me_E.deep (d' := d + 1) this (Nat.le_add_left _ _)).imp (fun w h' hq => ?_)
  obtain ⟨q1, q2, p, hp, q3, -⟩ := hq
  refine ⟨me_nil q2, ?_⟩
  rcases List.mem_cons.mp hp with rfl | hp
  · obtain ⟨z, e, z0, z1⟩ := me_resI q3 (by decide) rfl
    exact ⟨z, e, z0, z1, fun _ => ⟨c0, c6⟩⟩
  · cases hp
end RSS
