/-! compile, on both sides -/
theorem me_E.all {ι : Type} {d m pc : Nat} {ls : mi_L} {st : List mi_V} {h : sm_H} {Q : ι → Option mi_V → sm_H → Prop} (i0 : ι) (k : ∀ i, me_E d m pc ls st h (Q i)) : me_E d m pc ls st h (fun w h' => ∀ i, Q i w h') := by
  obtain ⟨n, v, h1, r, w, e1, e2, -⟩ := k i0
  refine ⟨n, v, h1, r, w, e1, e2, fun i => ?_⟩
  obtain ⟨n', v', h1', r', w', e1', e2', e3'⟩ := k i
  have := sm_run_same r r'
  injection this with ev eh
  subst eh
  have : w = w' := by
    rw [e1, e1'] at ev
    cases w with
    | none => cases w' with
      | none => rfl
      | some y => cases ev
    | some x => cases w' with
      | none => cases ev
      | some y =>
        have ev2 : some (mi_c x) = some (mi_c y) := ev
        injection ev2 with ev3
        rw [mi_c_inj (e2 x rfl) (e2' y rfl) ev3]
  rw [this]
  exact e3'
/-- some read of the reference -/
def PG (n : Int) (c : Nat → Int) (g0 : wk_g) : Prop := rz_0 g0 ∧ ((∃ f, rz_B n c g0 f) ∨ ∃ g h2 Y, rz_D n c g0 g ∧ rz_U g ∧ RQ g h2 ∧ sy_L h2 Y)
theorem PG_of {h : sm_H} (hS : ab_Sh sx_sk h) : ∃ g0, PG (mi_f h 13953) (mi_a h 110) g0 := by
  have k := (me_readx hS).and (rd_ok h hS)
  obtain ⟨n, v, h1, r, w, e1, e2, ⟨g0, z0, z1, z2, z3⟩, q1, q2, q3, q4⟩ := k
  refine ⟨g0, z0, ?_⟩
  by_cases c : mi_f h1 13960 = 0
  · obtain ⟨-, g, y1, y2, y3⟩ := z2 c
    obtain ⟨Y, l1, -⟩ := q4 (by omega)
    exact Or.inr ⟨g, h1, Y, y1, y2, y3, l1⟩
  · exact Or.inl ⟨_, z3 c⟩
/-- the class's sets are worked out -/
def SC (h : sm_H) : Prop := ∃ (j k : Nat) (W : sp_F), sp_eq 70 (cX h) (sps_k (GC h) 70 j) ∧ sp_fix 70 (GC h) (sps_k (GC h) 70 j) ∧ (∀ i : Nat, i < 70 → W i = if i = 0 then 1 else 0) ∧ (∀ i : Nat, mx_b h 81 i = sk_k (sps_k (GC h) 70 j) (GC h) 70 W k i) ∧ sw_sol (sps_k (GC h) 70 j) 70 (GC h) (sk_k (sps_k (GC h) 70 j) (GC h) 70 W k)
def sc_no (wr : List (Nat × Nat)) : Bool := !([63, 64, 65, 66, 68, 69, 71, 72].any (fun r => ab_in wr (r * 128))) && !(ab_in wr 10112 || ab_in wr 10240 || ab_in wr 10496) && !ab_in wr 10368
theorem SC_fr {h h' : sm_H} {wr : List (Nat × Nat)} (hC : SC h) (hS : ab_Sh sx_sk h) (hF : ab_Fr wr h h') (hw : sc_no wr = true) : SC h' := by
  unfold sc_no at hw
  simp only [Bool.and_eq_true, Bool.not_eq_true'] at hw
  have e := cv_eq_fr hF hS hw.1.1
  have eX := cX_fr hF hS hw.1.2
  unfold SC
  rw [e.g, eX, show mx_b h' 81 = mx_b h 81 from funext fun i => me_b (k := 81) hF hS rfl hw.2]
  exact hC
theorem TC_fr {f : Int → Int} {ow : Nat → Nat} {g : wk_g} {h h' : sm_H} {wr : List (Nat × Nat)} (hC : TC f ow g h) (hS : ab_Sh sx_sk h) (hF : ab_Fr wr h h') (hw : ([63, 64, 65, 66, 68, 69, 71, 72].any (fun r => ab_in wr (r * 128)) || ab_in wr 7680) = false) : TC f ow g h' := by
  simp only [Bool.or_eq_false_iff] at hw
  obtain ⟨e63, e64, e65, e66, e68, e69, e71, e72⟩ := cv_eq_fr hF hS hw.1
  unfold TC
  rw [e63, e64, e65, e66, e68, e69, e71, e72, me_f (c := 7680) hF hS rfl hw.2]
  exact hC
def cm_W : List (Nat × Nat) := [(6542, 6544), (7680, 12545)]
def cm_G (n : Int) (c : Nat → Int) (g0 : wk_g) (h' : sm_H) : Prop := (mi_f h' 6542 = 0 ∧ ∃ f, rz_B n c g0 f) ∨ (mi_f h' 6542 = 1 ∧ SC h' ∧ ∃ f ow g, rz_D n c g0 g ∧ rz_U g ∧ PR ow g ∧ FI f g ∧ TC f ow g h' ∧ PV 240 g ∧ PW g ∧ g 0 1 ≤ g 0 0 ∧ 1 ≤ g 0 3)
def cm_Q (n : Int) (c : Nat → Int) (g0 : wk_g) (h : sm_H) (w : Option mi_V) (h' : sm_H) : Prop := (∃ y, w = some (.inl y) ∧ mi_in y) ∧ ab_Sh sx_sk h' ∧ ab_Fr cm_W h h' ∧ cm_G n c g0 h'
theorem PV_240 {n : Int} {g : wk_g} (h : PV n g) (hn : n ≤ 240) : PV 240 g := ⟨h.1, h.2.1, fun u hu => ⟨⟨((h.2.2 u hu).1).1, by have := (h.2.2 u hu).1; omega⟩, (h.2.2 u hu).2⟩⟩
section CMC
variable {d : Nat} {h : sm_H} {n : Int} {c : Nat → Int} {g0 : wk_g}
theorem me_dropT {k : Int} {cc : ab_C} (hok : ab_Ok sc_P sx_sk cc) (hc : cc = (13, [(3, k, 0, [])], [], [(ab_unk, [])], cc.2.2.2.2.1, 0)) (hk : k = 94 ∨ k = 98) (hS : ab_Sh sx_sk h) : me_E (d + 32) 13 0 (mi_entry 1 [.inr (.inr k.toNat)]) [] h (fun w h' => w = none ∧ ab_Sh sx_sk h' ∧ ab_Fr cc.2.2.2.2.1 h h') := by
  have e1 : cc.1 = 13 := by rw [hc]
  have e2 : cc.2.1 = [(3, k, 0, [])] := by rw [hc]
  have e3 : cc.2.2.1 = [] := by rw [hc]
  have e4 : cc.2.2.2.1 = [(ab_unk, [])] := by rw [hc]
  have e5 : cc.2.2.2.2.2 = 0 := by rw [hc]
  have A := me_abs (M := (1, 0, sb_13)) (as := [.inr (.inr k.toNat)]) hok (by rw [e1]; rfl) hS (by rw [e2]; rcases hk with rfl | rfl <;> exact ⟨rfl, trivial⟩) (by rw [e3]; exact fun e he => by cases he) (by rw [e4]; rfl)
  rw [e1, e5] at A
  refine (me_E.deep (d' := d + 32) A (Nat.zero_le _)).imp (fun w h' hq => ?_)
  obtain ⟨q1, q2, p, hp, q3, -⟩ := hq
  exact ⟨q3, q1, q2⟩
theorem me_compilec (hS : ab_Sh sx_sk h) (hx : cx_ok h) (en : mi_f h 6657 = n) (ec : mi_a h 53 = c) (hG : PG n c g0) : me_E (d + 33) 12 0 [some (.inr (.inr 51)), none] [] h (cm_Q n c g0 h) := by
  have n240 : n ≤ 240 := by have := me_fb (c := 6657) hS rfl; omega
  refine mt_cmA hS (fun h1 g1 g2 => ?_)
  have e0 := me_nil g2
  subst e0
  refine ⟨_, me_dropT (d := d) (k := 94) xo_0 rfl (Or.inl rfl) hS, fun w h2 oww hq => ?_⟩
  obtain ⟨rfl, a1, a2⟩ := hq
  refine mt_cmB a1 (fun h3 g1 g2 => ?_)
  have e0 := me_nil g2
  subst e0
  refine ⟨_, me_dropT (d := d) (k := 98) xo_1 rfl (Or.inr rfl) a1, fun w h4 oww hq => ?_⟩
  obtain ⟨rfl, b1, b2⟩ := hq
  have F4 : ab_Fr cm_W h1 h4 := (a2.wide (fun c hc => ab_swr_ok (by decide) hc)).trans (b2.wide (fun c hc => ab_swr_ok (by decide) hc))
  have e57 : mi_f h4 6657 = n := (me_f (c := 6657) F4 hS rfl rfl).trans en
  have e53 : mi_a h4 53 = c := (funext fun i => me_a (k := 53) F4 hS rfl rfl).trans ec
  have x4 : cx_ok h4 := by
    unfold cx_ok
    rw [e57, e53, ← en, ← ec]
    exact hx
  refine mt_cmC b1 (fun h5 g1 g2 => ?_)
  have e0 := me_nil g2
  subst e0
  refine ⟨_, me_readc (d := d) b1 x4 hG.1 e57 e53, fun w h6 oww hq => ?_⟩
  obtain ⟨rfl, r1, r2, r3, r4⟩ := hq
  have F6 : ab_Fr cm_W h1 h6 := F4.trans (r2.wide (fun c hc => ab_swr_ok (by decide) hc))
  have kr : kF h6 = 0 ↔ mi_f h6 9730 = 0 := by
    unfold kF
    constructor
    · intro q
      by_cases c : mi_f h6 9730 = 0
      · exact c
      · obtain ⟨-, ⟨k1, k2⟩, k3, k4⟩ := r4 c
        omega
    · intro q
      have := (r3 q).1
      omega
  have okk : mi_in (kF h6) := by
    by_cases c : mi_f h6 9730 = 0
    · rw [kr.mpr c]; exact fm_in0
    · obtain ⟨-, ⟨k1, k2⟩, k3, k4⟩ := r4 c
      unfold kF
      exact ⟨by omega, by omega⟩
  have fin : ∀ (z : Int) (h9 : sm_H), mi_in z → ab_Sh sx_sk h9 → ab_Fr cm_W h1 h9 → cm_G n c g0 h9 → me_E (d + 33) 12 57 [some (.inr (.inr 51)), some (.inl z)] [] h9 (cm_Q n c g0 h1) := by
    intro z h9 oz s1 s2 s3
    have go : ∀ h10, ab_Sh sx_sk h10 → ab_Fr [(6543, 6544)] h9 h10 → cm_Q n c g0 h1 (some (.inl z)) h10 := by
      intro h10 t1 t2
      refine ⟨⟨z, rfl, oz⟩, t1, s2.trans (t2.wide (fun c hc => ab_swr_ok (by decide) hc)), ?_⟩
      have e42 : mi_f h10 6542 = mi_f h9 6542 := me_f (c := 6542) t2 s1 rfl rfl
      rcases s3 with ⟨y1, y2⟩ | ⟨y1, y2, f, ow, g, k1, k2, k3, k4, k5, k6⟩
      · exact Or.inl ⟨e42.trans y1, y2⟩
      · exact Or.inr ⟨e42.trans y1, SC_fr y2 s1 t2 (by decide), f, ow, g, k1, k2, k3, k4, TC_fr k5 s1 t2 (by decide), k6⟩
    refine mt_cmG s1 oz ?_ ?_
    · intro c1 h10 t1 t2 t3
      exact go h10 t1 t3
    · intro c1 h10 t1 t2 t3
      exact go h10 t1 t3
  refine mt_cmD r1 okk ?_ ?_
  · intro c1 h7 s1 s2 s3
    have cf : mi_f h6 9730 ≠ 0 := fun q => c1 (kr.mpr q)
    exact fin _ h7 okk s1 (F6.trans (s3.wide (fun c hc => ab_swr_ok (by decide) hc))) (Or.inl ⟨s2, _, (r4 cf).1⟩)
  · intro c1 h7 s1 s2 s3
    have cf : mi_f h6 9730 = 0 := kr.mp c1
    obtain ⟨-, f, ow, g, k1, k2, k3, k4, k5, k6, k7, k8⟩ := r3 cf
    have T6 := TC_of k5
    have T7 := TC_fr T6 r1 s3 (by decide)
    have V := PV_240 k6 n240
    have F7 : ab_Fr cm_W h1 h7 := F6.trans (s3.wide (fun c hc => ab_swr_ok (by decide) hc))
    /- the reference would read the same -/
    obtain ⟨g', h'', Y, p1, p2, p3, p4⟩ : ∃ g h2 Y, rz_D n c g0 g ∧ rz_U g ∧ RQ g h2 ∧ sy_L h2 Y := by
      rcases hG.2 with ⟨f', q⟩ | q
      · exact (rz_xB k1 k2 q).elim
      · exact q
    have eg := rz_DD p1 k1
    subst eg
    have r03 : 1 ≤ g' 0 3 := by
      obtain ⟨j, a', -, -, q⟩ := k1
      have q : g' 0 3 ≠ 0 := q
      have := k3.1.2.2.1
      omega
    have hF := CV_F p3 T7 k3 k4 V k8 k2 p4 k7
    refine ⟨_, me_setsWork (d := d + 25) s1 hF, fun w h8 oww hq => ?_⟩
    obtain ⟨rfl, t1, t2, j, k, W, t3, t4, t5, t6, t7⟩ := hq
    have e8 := cv_eq_fr t2 s1 (by rfl)
    have S8 : SC h8 := by
      refine ⟨j, k, W, ?_, ?_, t5, fun i => ?_, ?_⟩
      · rw [e8.g]; exact t3
      · rw [e8.g]; exact t4
      · rw [e8.g]; exact t6 i
      · rw [e8.g]; exact t7
    have T8 := TC_fr T7 s1 t2 (by decide)
    have F8 : ab_Fr cm_W h1 h8 := F7.trans (t2.wide (fun c hc => ab_swr_ok (by decide) hc))
    have e8' : mi_f h8 6542 = 1 := (me_f (c := 6542) t2 s1 rfl rfl).trans s2
    refine mt_cmE t1 okk (fun h9 g1 g2 => ?_)
    have e0 := me_nil g2
    subst e0
    have A := me_abs (M := (2, 1, sb_82)) (as := [.inr (.inr 93)]) xo_140 rfl t1 ⟨rfl, trivial⟩ (fun e he => by cases he) (by decide)
    refine ⟨_, me_E.deep (d' := d + 32) A (by show 3 ≤ d + 32; omega), fun w h10 oww hq => ?_⟩
    obtain ⟨q1, q2, p, hp, q3, -⟩ := hq
    have q2 : ab_Fr [(11906, 11907)] h9 h10 := q2
    rcases List.mem_cons.mp hp with rfl | hp
    · obtain ⟨y, rfl, y0, y1⟩ := me_resI q3 (by decide) rfl
      refine mt_cmF q1 okk ⟨y0, y1⟩ (fun h11 g1 g2 => ?_)
      have e0 := me_nil g2
      subst e0
      exact fin y h11 ⟨y0, y1⟩ q1 (F8.trans (q2.wide (fun c hc => ab_swr_ok (by decide) hc))) (Or.inr ⟨(me_f (c := 6542) q2 t1 rfl rfl).trans e8', SC_fr S8 t1 q2 (by decide), f, ow, g', k1, k2, k3, k4, TC_fr T8 t1 q2 (by decide), V, k8, k7, r03⟩)
    · cases hp
end CMC
/-- the reference's sets are worked out -/
def SM (h : sm_H) : Prop := ∃ (j k : Nat) (W : sp_F), sp_eq (mi_f h 13965).toNat (rX h) (sr_k (GR (mi_a h)) j) ∧ sp_fix (mi_f h 13965).toNat (GR (mi_a h)) (sr_k (GR (mi_a h)) j) ∧ (∀ i : Nat, (i : Int) < mi_f h 13965 → W i = if (i : Int) = mi_a h 114 0 then 1 else 0) ∧ (∀ i : Nat, mx_b h 138 i = sk_k (sr_k (GR (mi_a h)) j) (GR (mi_a h)) (mi_f h 13965).toNat W k i) ∧ sw_sol (sr_k (GR (mi_a h)) j) (mi_f h 13965).toNat (GR (mi_a h)) (sk_k (sr_k (GR (mi_a h)) j) (GR (mi_a h)) (mi_f h 13965).toNat W k)
def co_G (n : Int) (c : Nat → Int) (g0 : wk_g) (h' : sm_H) : Prop := (mi_f h' 13959 = 0 ∧ ∃ f, rz_B n c g0 f) ∨ (mi_f h' 13959 ≠ 0 ∧ SM h' ∧ ∃ g Y, rz_D n c g0 g ∧ rz_U g ∧ RQ g h' ∧ sy_L h' Y)
def co_Q (h : sm_H) (w : Option mi_V) (h' : sm_H) : Prop := (∃ y, w = some (.inl y) ∧ mi_in y) ∧ ab_Sh sx_sk h' ∧ ab_Fr mr_W h h' ∧ mj_0 h' ∧ ∃ g0, PG (mi_f h 13953) (mi_a h 110) g0 ∧ co_G (mi_f h 13953) (mi_a h 110) g0 h'
