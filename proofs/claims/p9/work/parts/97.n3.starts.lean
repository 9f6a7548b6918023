/-! the class's Sets: spreadStarts -/
/-- the rows are the same -/
def cv_eq (h h' : sm_H) : Prop := mi_a h' 63 = mi_a h 63 ∧ mi_a h' 64 = mi_a h 64 ∧ mi_a h' 65 = mi_a h 65 ∧ mi_a h' 66 = mi_a h 66 ∧ mi_a h' 68 = mi_a h 68 ∧ mi_a h' 69 = mi_a h 69 ∧ mi_a h' 71 = mi_a h 71 ∧ mi_a h' 72 = mi_a h 72
section CVE
variable {h h' : sm_H} {U : Int}
theorem cv_eq_fr {wr : List (Nat × Nat)} (hF : ab_Fr wr h h') (hS : ab_Sh sx_sk h) (hw : [63, 64, 65, 66, 68, 69, 71, 72].any (fun r => ab_in wr (r * 128)) = false) : cv_eq h h' := by
  have a : ∀ r, r ∈ [63, 64, 65, 66, 68, 69, 71, 72] → mi_a h' r = mi_a h r := fun r hr => funext fun i => by
    have n := List.any_eq_false.mp hw r hr
    have all : [63, 64, 65, 66, 68, 69, 71, 72].all (fun r => mx_isA sx_sk r || mx_isB sx_sk r) = true := by decide
    exact me_a hF hS (List.all_eq_true.mp all r hr) (by simpa using n)
  exact ⟨a 63 (by decide), a 64 (by decide), a 65 (by decide), a 66 (by decide), a 68 (by decide), a 69 (by decide), a 71 (by decide), a 72 (by decide)⟩
theorem cv_eq.p (e : cv_eq h h') : cv_p h' = cv_p h := by
  funext u
  unfold cv_p gf_v
  rw [e.2.2.2.2.1, e.2.2.2.2.2.1, e.2.2.2.2.2.2.2]
theorem cv_eq.row (e : cv_eq h h') : ∀ (n : Nat) (u : Int), cv_row h' n u = cv_row h n u := by
  intro n
  induction n with
  | zero => intro u; rfl
  | succ n ih => intro u; unfold cv_row; rw [ih, e.2.2.2.2.2.2.1]
theorem cv_eq.as (e : cv_eq h h') : ∀ (n : Nat) (a : Int), cv_as h' n a = cv_as h n a := by
  intro n
  induction n with
  | zero => intro u; rfl
  | succ n ih => intro u; unfold cv_as; rw [ih, e.2.2.2.1]
theorem cv_eq.l (e : cv_eq h h') : cv_l h' = cv_l h := by
  funext a
  unfold cv_l
  rw [e.row, e.2.2.1]
theorem cv_eq.n (e : cv_eq h h') : cv_n h' = cv_n h := by
  funext F
  unfold cv_n
  rw [e.2.1]
theorem cv_eq.g (e : cv_eq h h') : GC h' = GC h := by
  funext F
  unfold GC
  rw [e.as, e.l, e.n, e.p, e.1]
theorem cv_eq.u (e : cv_eq h h') (hU : cv_u h U) : cv_u h' U := by
  unfold cv_u gf_v at *
  rw [e.2.2.2.2.1, e.2.2.2.2.2.1, e.2.2.2.2.2.2.1]
  exact hU
theorem cv_eq.al (e : cv_eq h h') : ∀ (n : Nat) (a : Int), cv_al h U n a → cv_al h' U n a := by
  intro n
  induction n with
  | zero => intro a _; trivial
  | succ n ih =>
    intro a ha
    obtain ⟨k1, k2, k3⟩ := ha
    unfold cv_al
    rw [e.2.2.1, e.2.2.2.1]
    exact ⟨k1, k2, ih _ k3⟩
theorem cv_row_in (hU : cv_u h U) : ∀ (n : Nat) (p : Int), (p = -1 ∨ (0 ≤ p ∧ p < U)) → ∀ u ∈ cv_row h n p, 0 ≤ u ∧ u < U := by
  intro n
  induction n with
  | zero => intro p _ u hu; cases hu
  | succ n ih =>
    intro p hp u hu
    unfold cv_row at hu
    by_cases c : p = -1
    · rw [if_pos c] at hu; cases hu
    · rw [if_neg c] at hu
      have p01 := hp.resolve_left c
      rcases List.mem_cons.mp hu with rfl | hu
      · exact p01
      · have w := (hU.2 p p01.1 p01.2).1
        exact ih _ (by omega) u hu
theorem cv_as_in : ∀ (n : Nat) (a : Int), cv_al h U n a → ∀ x ∈ cv_as h n a, (0 ≤ x ∧ x < 66) ∧ (mi_a h 65 x.toNat = -1 ∨ (0 ≤ mi_a h 65 x.toNat ∧ mi_a h 65 x.toNat < U)) := by
  intro n
  induction n with
  | zero => intro a _ x hx; cases hx
  | succ n ih =>
    intro a ha x hx
    obtain ⟨k1, k2, k3⟩ := ha
    rcases List.mem_cons.mp hx with rfl | hx
    · exact ⟨k1, k2⟩
    · exact ih _ k3 x hx
/-- all forms are fine -/
def cv_F (h : sm_H) (U : Int) : Prop := cv_u h U ∧ ∀ F : Nat, F < 70 → cv_al h U (cv_n h F) (mi_a h 63 F)
/-- part u is of form F -/
def cv_of (h : sm_H) (F : Nat) (u : Int) : Prop := ∃ a ∈ cv_as h (cv_n h F) (mi_a h 63 F), u ∈ cv_l h a
theorem cv_eq.F (e : cv_eq h h') (hF : cv_F h U) : cv_F h' U := ⟨e.u hF.1, fun F hF' => by rw [e.n, e.1]; exact e.al _ _ (hF.2 F hF')⟩
theorem cv_eq.of (e : cv_eq h h') {F : Nat} {u : Int} : cv_of h' F u ↔ cv_of h F u := by
  unfold cv_of
  rw [e.as, e.l, e.n, e.1]
theorem cv_of_in (hF : cv_F h U) {F : Nat} (hF' : F < 70) {u : Int} (hu : cv_of h F u) : 0 ≤ u ∧ u < U := by
  obtain ⟨a, ha, hu⟩ := hu
  exact cv_row_in hF.1 _ _ (cv_as_in _ _ (hF.2 F hF') a ha).2 u hu
theorem cv_p1 (hU : cv_u h U) {u : Int} (u0 : 0 ≤ u) (u1 : u < U) : (cv_p h u).1 < (70 : Nat) ∧ 0 ≤ (cv_p h u).2.1 := by
  obtain ⟨-, w2, -⟩ := hU.2 u u0 u1
  refine ⟨by show gf_v h u < 70; omega, ?_⟩
  show 0 ≤ (if mi_a h 68 u.toNat = 9 then (1 : Int) else 0)
  split <;> decide
theorem cv_OK (hF : cv_F h U) : sg_OK 70 (GC h) := fun F hF' us hus => by
  obtain ⟨a, ha, rfl⟩ := List.mem_map.mp hus
  have k : ∀ p ∈ (cv_l h a).map (cv_p h), p.1 < (70 : Nat) ∧ 0 ≤ p.2.1 := fun p hp => by
    obtain ⟨u, hu, rfl⟩ := List.mem_map.mp hp
    obtain ⟨u0, u1⟩ := cv_of_in hF hF' ⟨a, ha, hu⟩
    exact cv_p1 hF.1 u0 u1
  exact ⟨fun p hp => (k p hp).1, fun p hp => (k p hp).2⟩
end CVE
theorem su_eq {n : Nat} {G : sg_G} {X Y : sp_X} {F : Nat} (hG : sg_OK n G) (hF : F < n) (h : sp_eq n X Y) : sp_eq n (su G F X) (su G F Y) := fun i hi => by
  obtain ⟨a1, a2, a3⟩ := h.fs (hG F hF)
  obtain ⟨b1, b2, b3⟩ := h i hi
  show (if i = F then sf_v X (G F) else X.1 i) = (if i = F then sf_v Y (G F) else Y.1 i) ∧ (if i = F then sf_s X (G F) else X.2.1 i) = (if i = F then sf_s Y (G F) else Y.2.1 i) ∧ (if i = F then sf_h X (G F) else X.2.2 i) = (if i = F then sf_h Y (G F) else Y.2.2 i)
  rw [a1, a2, a3, b1, b2, b3]
  exact ⟨rfl, rfl, rfl⟩
theorem sps_eq {n : Nat} {G : sg_G} (hG : sg_OK n G) : ∀ (m : Nat) (X Y : sp_X), m ≤ n → sp_eq n X Y → sp_eq n (sps G m X) (sps G m Y) := by
  intro m
  induction m with
  | zero => intro X Y _ h; exact h
  | succ m ih => intro X Y hm h; exact ih _ _ (by omega) (su_eq hG (by omega) h)
theorem pt_ok_eq {X Y : sp_X} {P : Int → sp_P} {h : sm_H} {u n : Nat} (e : sp_eq n X Y) (hp : (P u).1 < n) (k : pt_ok P X h u) : pt_ok P Y h u := by
  have e1 : sp_v X (P u) = sp_v Y (P u) := by
    unfold sp_v
    by_cases c : 0 ≤ (P u).1
    · rw [if_pos c, if_pos c]; exact (e _ (by omega)).1
    · rw [if_neg c, if_neg c]
  have e2 : sp_s X (P u) = sp_s Y (P u) := by
    unfold sp_s
    by_cases c : 0 ≤ (P u).1
    · rw [if_pos c, if_pos c]; exact (e _ (by omega)).2.1
    · rw [if_neg c, if_neg c]
  exact ⟨k.1.trans e1, k.2.trans e2⟩
/-- a part has what X, or what came between X and Y, has -/
def pt_bt (hb : sm_H) (X Y : sp_X) (h : sm_H) (u : Nat) : Prop := ∃ Z, sp_le 70 X Z ∧ sp_le 70 Z Y ∧ sp_01 70 Z ∧ pt_ok (cv_p hb) Z h u
def ss_W : List (Nat × Nat) := rm_W
def ss_Q (hb : sm_H) (w : Option mi_V) (h' : sm_H) : Prop := w = none ∧ ab_Sh sx_sk h' ∧ ab_Fr rm_W hb h' ∧ ∃ j, sp_eq 70 (cX h') (sps_k (GC hb) 70 j) ∧ sp_fix 70 (GC hb) (sps_k (GC hb) 70 j) ∧ ∀ F : Nat, F < 70 → ∀ u : Nat, cv_of hb F u → pt_ok (cv_p hb) (sps_k (GC hb) 70 j) h' u
section SPS
variable {d : Nat} {hb : sm_H} {U : Int}
/-- before form zf of turn k + 1 -/
def ss_I (hb : sm_H) (k : Nat) (m : Nat) (h : sm_H) : Prop := ab_Sh sx_sk h ∧ ab_Fr rm_W hb h ∧ sp_eq 70 (sps (GC hb) m (cX h)) (sps_k (GC hb) 70 (k + 1)) ∧ sp_le 70 (sps_k (GC hb) 70 k) (cX h) ∧ sp_01 70 (cX h) ∧ sp_up 70 (GC hb) (cX h) ∧ (∀ F : Nat, F < 70 → mi_a h 82 F ≤ 1000) ∧ (mi_f h 9999 = 0 → sp_eq 70 (cX h) (sps_k (GC hb) 70 k)) ∧ ∀ F : Nat, m ≤ F → F < 70 → ∀ u : Nat, cv_of hb F u → pt_bt hb (sps_k (GC hb) 70 k) (sps_k (GC hb) 70 (k + 1)) h u
theorem ss_step {k m : Nat} {h : sm_H} (hSb : ab_Sh sx_sk hb) (hF : cv_F hb U) (hm : m < 70) (hI : ss_I hb k (m + 1) h) : me_E (d + 5) 68 0 [some (.inr (.inr 78)), some (.inl (m : Int)), none, none, none, none, none, none, none] [] h (fun w h' => w = none ∧ ss_I hb k m h') := by
  obtain ⟨i1, i2, i3, i4, i5, i6, i7, i8, i9⟩ := hI
  have e : cv_eq hb h := cv_eq_fr i2 hSb rfl
  have hF' := e.F hF
  have hG := cv_OK hF
  have em : ((m : Int)).toNat = m := rfl
  refine (me_refreshForm (d := d) (zf := (m : Int)) i1 hF'.1 i5 i7 (by omega) (by omega) (hF'.2 m hm)).imp (fun w h' hq => ?_)
  obtain ⟨r1, r2, r3, r4, r5, r6, r7⟩ := hq
  rw [em, e.g] at r4
  have F' : ab_Fr rm_W hb h' := i2.trans r3
  have e1 : sps (GC hb) m (cX h') = sps (GC hb) (m + 1) (cX h) := by rw [r4]; rfl
  have lN : sp_le 70 (cX h) (sps_k (GC hb) 70 (k + 1)) := sp_le_tr (sps_up hG (m + 1) _ (by omega) i6).1 i3.le
  refine ⟨r1, r2, F', by rw [e1]; exact i3, sp_le_tr i4 (by rw [r4]; exact su_le i6), by rw [r4]; exact su_01 i5, by rw [r4]; exact su_up hG (by omega) i6, fun F hF'' => ?_, fun q => ?_, fun F f0 f1 u hu => ?_⟩
  · have x : mi_a h' 82 F = if F = m then sf_h (cX h) (GC hb m) else mi_a h 82 F := congrFun (congrArg (fun X : sp_X => X.2.2) r4) F
    rw [x]
    split
    · exact sf_h_1000 _ _
    · exact i7 F hF''
  · obtain ⟨q1, q2⟩ := r5 q
    rw [q2]
    exact i8 q1
  · by_cases c : cv_of hb m u
    · have k1 := r6 u (e.of.mpr c)
      rw [e.p] at k1
      exact ⟨cX h, i4, lN, i5, k1⟩
    · have nF : F ≠ m := fun q => c (by rw [← q]; exact hu)
      obtain ⟨Z, z1, z2, z3, z4⟩ := i9 F (by omega) f1 u hu
      obtain ⟨x1, x2⟩ := r7 u (fun a ha q => c (e.of.mp ⟨a, ha, q⟩))
      exact ⟨Z, z1, z2, z3, x1.trans z4.1, x2.trans z4.2⟩
theorem ss_pass {k : Nat} {zn : Int} {Q : Option mi_V → sm_H → Prop} (hSb : ab_Sh sx_sk hb) (hF : cv_F hb U) (on : mi_in zn) (on1 : mi_in (zn + 1)) (K : ∀ h, ss_I hb k 0 h → me_E (d + 6) 67 7 [some (.inr (.inr 78)), some (.inl (zn + 1)), some (.inl (-1))] [] h Q) : ∀ (m : Nat) (h : sm_H), m ≤ 70 → ss_I hb k m h → me_E (d + 6) 67 28 [some (.inr (.inr 78)), some (.inl zn), some (.inl ((m : Int) - 1))] [] h Q := by
  intro m
  induction m with
  | zero =>
    intro h _ hI
    refine mt_spC hI.1 on ⟨by decide, by decide⟩ ?_ (fun q => absurd q (by decide))
    intro c1
    refine ⟨on1, fun h1 g1 g2 => ?_⟩
    have e0 := me_nil g2
    subst e0
    exact K h1 hI
  | succ m ih =>
    intro h hm hI
    have ez : ((m + 1 : Nat) : Int) - 1 = (m : Int) := by omega
    rw [ez]
    refine mt_spC hI.1 on ⟨by omega, by omega⟩ (fun q => by exfalso; omega) ?_
    intro c1 h1 g1 g2
    have e0 := me_nil g2
    subst e0
    refine ⟨_, ss_step (d := d) hSb hF (by omega) hI, fun w h2 oww hq => ?_⟩
    obtain ⟨rfl, hI2⟩ := hq
    refine mt_spD hI2.1 on ⟨by omega, by omega⟩ ⟨by omega, fun h3 g1 g2 => ?_⟩
    have e0 := me_nil g2
    subst e0
    exact ih h3 (by omega) hI2
/-- between turns -/
def ss_H (hb : sm_H) (k : Nat) (h : sm_H) : Prop := ab_Sh sx_sk h ∧ ab_Fr rm_W hb h ∧ sp_eq 70 (cX h) (sps_k (GC hb) 70 k) ∧ (∀ F : Nat, F < 70 → mi_a h 82 F ≤ 1000) ∧ (k = 0 → mi_f h 9999 ≠ 0) ∧ ∀ j, k = j + 1 → (mi_f h 9999 = 0 → sp_eq 70 (sps_k (GC hb) 70 (j + 1)) (sps_k (GC hb) 70 j)) ∧ ∀ F : Nat, F < 70 → ∀ u : Nat, cv_of hb F u → pt_bt hb (sps_k (GC hb) 70 j) (sps_k (GC hb) 70 (j + 1)) h u
theorem ss_end {k : Nat} {h : sm_H} (hF : cv_F hb U) (hH : ss_H hb k h) (hx : mi_f h 9999 = 0 ∨ 100000 ≤ k) : ss_Q hb none h := by
  obtain ⟨i1, i2, i3, i4, i5, i6⟩ := hH
  have hG := cv_OK hF
  cases k with
  | zero => 
    exfalso
    rcases hx with q | q
    · exact i5 rfl q
    · omega
  | succ j =>
    obtain ⟨j1, j2⟩ := i6 j rfl
    have E : sp_eq 70 (sps_k (GC hb) 70 (j + 1)) (sps_k (GC hb) 70 j) := by
      rcases hx with q | q
      · exact j1 q
      · exact sps_k_stop hG (by omega)
    refine ⟨rfl, i1, i2, j, i3.trans E, fun F hF' => sps_fix hG 70 _ (Nat.le_refl _) (sps_k_01 j) (sps_k_up hG j) E F hF', fun F hF' u hu => ?_⟩
    obtain ⟨Z, z1, z2, z3, z4⟩ := j2 F hF' u hu
    obtain ⟨u0, u1⟩ := cv_of_in hF hF' hu
    exact pt_ok_eq (sp_anti z3 (sps_k_01 j) (sp_le_tr z2 E.le) z1) (cv_p1 hF.1 u0 u1).1 z4
theorem ss_loop (hSb : ab_Sh sx_sk hb) (hF : cv_F hb U) : ∀ (N k : Nat) (q2 : Option mi_V) (h : sm_H), 100000 - k < N → k ≤ 100000 → (∀ v, q2 = some v → mi_ok v) → ss_H hb k h → me_E (d + 6) 67 7 [some (.inr (.inr 78)), some (.inl (k : Int)), q2] [] h (ss_Q hb) := by
  have hG := cv_OK hF
  intro N
  induction N with
  | zero => intro k q2 h hN; exfalso; omega
  | succ N ih =>
    intro k q2 h hN hk oq hH
    refine mt_spB hH.1 ⟨by omega, by omega⟩ oq ?_ ?_ ?_
    · intro b c1 h1 g1 g2
      have e0 := me_nil g2
      subst e0
      exact ss_end hF hH (Or.inl c1)
    · intro b c1 c2 h1 g1 g2
      have e0 := me_nil g2
      subst e0
      exact ss_end hF hH (Or.inr (by omega))
    · intro b c1 c2 h1 s1 s2 s3
      obtain ⟨i1, i2, i3, i4, i5, i6⟩ := hH
      have eX : cX h1 = cX h := cX_fr s3 i1 rfl
      have I1 : ss_I hb k 70 h1 := by
        refine ⟨s1, i2.trans (s3.wide (fun c hc => ab_swr_ok (by decide) hc)), ?_, ?_, ?_, ?_, fun F hF' => by rw [me_a (k := 82) s3 i1 rfl rfl]; exact i4 F hF', fun _ => by rw [eX]; exact i3, fun F f0 f1 => by omega⟩
        · rw [eX]; exact sps_eq hG 70 _ _ (Nat.le_refl _) i3
        · rw [eX]; exact i3.symm.le
        · rw [eX]
          intro F hF'
          rw [(i3 F hF').1]
          exact sps_k_01 k F hF'
        · rw [eX]
          intro F hF'
          obtain ⟨a1, a2, a3⟩ := i3.fs (hG F hF')
          obtain ⟨b1, b2, b3⟩ := i3 F hF'
          rw [a1, a2, a3, b1, b2, b3]
          exact sps_k_up hG k F hF'
      refine ss_pass (k := k) hSb hF ⟨by omega, by omega⟩ ⟨by omega, by omega⟩ (fun h2 hI => ?_) 70 h1 (Nat.le_refl _) I1
      obtain ⟨j1, j2, j3, j4, j5, j6, j7, j8, j9⟩ := hI
      have ek : (k : Int) + 1 = ((k + 1 : Nat) : Int) := by omega
      rw [ek]
      exact ih (k + 1) _ h2 (by omega) (by omega) (me_oi ⟨by decide, by decide⟩) ⟨j1, j2, j3, j7, fun q => by omega, fun j ej => by
        have : j = k := by omega
        subst this
        exact ⟨fun q => j3.symm.trans (j8 q), fun F hF' u hu => j9 F (Nat.zero_le _) hF' u hu⟩⟩
theorem me_spreadStarts {h : sm_H} (hSb : ab_Sh sx_sk hb) (hF : cv_F hb U) (hS : ab_Sh sx_sk h) (hFr : ab_Fr rm_W hb h) (h0 : sp_eq 70 (cX h) sp_bot) : me_E (d + 6) 67 0 [some (.inr (.inr 78)), none, none] [] h (ss_Q hb) := by
  refine mt_spA hS (fun h1 s1 s2 s3 => ?_)
  have eX : cX h1 = cX h := cX_fr s3 hS rfl
  refine ss_loop hSb hF 100001 0 none h1 (by decide) (by decide) me_on ⟨s1, hFr.trans (s3.wide (fun c hc => ab_swr_ok (by decide) hc)), by rw [eX]; exact h0, fun F hF' => ?_, fun _ => by omega, fun j ej => by omega⟩
  have : mi_a h1 82 F = 1000 := by
    have := (h0 F hF').2.2
    rw [← eX] at this
    exact this
  omega
end SPS
