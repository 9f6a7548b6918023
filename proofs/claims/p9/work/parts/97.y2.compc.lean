/-! the class's compile, with its answer -/
def wx_B (hb h' : sm_H) : Prop := ∃ (j k : Nat) (W0 : sp_F), sp_eq 70 (cX h') (sps_k (GC hb) 70 j) ∧ sp_fix 70 (GC hb) (sps_k (GC hb) 70 j) ∧ (∀ i : Nat, i < 70 → W0 i = if i = 0 then 1 else 0) ∧ (∀ i : Nat, mx_b h' 81 i = sk_k (sps_k (GC hb) 70 j) (GC hb) 70 W0 k i) ∧ sw_sol (sps_k (GC hb) 70 j) 70 (GC hb) (sk_k (sps_k (GC hb) 70 j) (GC hb) 70 W0 k) ∧
  (∀ F : Nat, F < 70 → ∀ u : Nat, cv_of hb F u → pt_ok (cv_p hb) (sps_k (GC hb) 70 j) h' u ∧ mx_b h' 91 u = pf_v hb (sps_k (GC hb) 70 j) (mx_b h' 81 F) u) ∧
  (∀ F : Nat, F < 70 → ∀ a ∈ cv_A hb F, mx_b h' 88 a.toNat = sa_s (sps_k (GC hb) 70 j) ((cv_l hb a).map (cv_p hb)) ||| (if sa_v (sps_k (GC hb) 70 j) ((cv_l hb a).map (cv_p hb)) = 1 then mx_b h' 81 F else 0)) ∧
  (∃ i, sp_eq 70 (cB h') (sps_k (bG (GC hb)) 70 i) ∧ sp_fix 70 (bG (GC hb)) (sps_k (bG (GC hb)) 70 i)) ∧ ∀ F : Nat, F < 70 → ∀ a ∈ cv_A hb F, mi_a h' 87 a.toNat = min 1000 (sa_h (sps_k (GC hb) 70 j) ((cv_l hb a).map (cv_p hb)))
def CA (f : Int → Int) (ow : Nat → Nat) (g : wk_g) (hb h : sm_H) (y : Int) : Prop := cv_eq hb h ∧ wx_B hb h ∧ TC f ow g h ∧ TP g h ∧ lo_S (k_all hb h) y
def cA_no (wr : List (Nat × Nat)) : Bool := [62, 63, 64, 65, 66, 67, 68, 69, 71, 72, 73, 79, 80, 81, 82, 83, 87, 88, 89, 90, 91].all (fun r => !ab_in wr (r * 128)) && (!ab_in wr 7680 && !ab_in wr 7690)
section CAF
variable {f : Int → Int} {ow : Nat → Nat} {g : wk_g} {hb h h' : sm_H} {y : Int} {wr : List (Nat × Nat)}
theorem CA_fr (hC : CA f ow g hb h y) (hS : ab_Sh sx_sk h) (hF : ab_Fr wr h h') (hw : cA_no wr = true) : CA f ow g hb h' y := by
  unfold cA_no at hw
  rw [Bool.and_eq_true, Bool.and_eq_true] at hw
  obtain ⟨w1, w2, w3⟩ := hw
  have w2 : ab_in wr 7680 = false := by simpa using w2
  have w3 : ab_in wr 7690 = false := by simpa using w3
  have w : ∀ r, r ∈ [62, 63, 64, 65, 66, 67, 68, 69, 71, 72, 73, 79, 80, 81, 82, 83, 87, 88, 89, 90, 91] → ab_in wr (r * 128) = false := fun r hr => by have := List.all_eq_true.mp w1 r hr; simpa using this
  have a62 : mi_a h' 62 = mi_a h 62 := funext fun i => me_a (k := 62) hF hS rfl (w 62 (by decide))
  have a63 : mi_a h' 63 = mi_a h 63 := funext fun i => me_a (k := 63) hF hS rfl (w 63 (by decide))
  have a64 : mi_a h' 64 = mi_a h 64 := funext fun i => me_a (k := 64) hF hS rfl (w 64 (by decide))
  have a65 : mi_a h' 65 = mi_a h 65 := funext fun i => me_a (k := 65) hF hS rfl (w 65 (by decide))
  have a66 : mi_a h' 66 = mi_a h 66 := funext fun i => me_a (k := 66) hF hS rfl (w 66 (by decide))
  have a67 : mi_a h' 67 = mi_a h 67 := funext fun i => me_a (k := 67) hF hS rfl (w 67 (by decide))
  have a68 : mi_a h' 68 = mi_a h 68 := funext fun i => me_a (k := 68) hF hS rfl (w 68 (by decide))
  have a69 : mi_a h' 69 = mi_a h 69 := funext fun i => me_a (k := 69) hF hS rfl (w 69 (by decide))
  have a71 : mi_a h' 71 = mi_a h 71 := funext fun i => me_a (k := 71) hF hS rfl (w 71 (by decide))
  have a72 : mi_a h' 72 = mi_a h 72 := funext fun i => me_a (k := 72) hF hS rfl (w 72 (by decide))
  have a73 : mi_a h' 73 = mi_a h 73 := funext fun i => me_a (k := 73) hF hS rfl (w 73 (by decide))
  have a79 : mi_a h' 79 = mi_a h 79 := funext fun i => me_a (k := 79) hF hS rfl (w 79 (by decide))
  have a82 : mi_a h' 82 = mi_a h 82 := funext fun i => me_a (k := 82) hF hS rfl (w 82 (by decide))
  have a83 : mi_a h' 83 = mi_a h 83 := funext fun i => me_a (k := 83) hF hS rfl (w 83 (by decide))
  have a87 : mi_a h' 87 = mi_a h 87 := funext fun i => me_a (k := 87) hF hS rfl (w 87 (by decide))
  have a89 : mi_a h' 89 = mi_a h 89 := funext fun i => me_a (k := 89) hF hS rfl (w 89 (by decide))
  have b80 : mx_b h' 80 = mx_b h 80 := funext fun i => me_b (k := 80) hF hS rfl (w 80 (by decide))
  have b81 : mx_b h' 81 = mx_b h 81 := funext fun i => me_b (k := 81) hF hS rfl (w 81 (by decide))
  have b88 : mx_b h' 88 = mx_b h 88 := funext fun i => me_b (k := 88) hF hS rfl (w 88 (by decide))
  have b90 : mx_b h' 90 = mx_b h 90 := funext fun i => me_b (k := 90) hF hS rfl (w 90 (by decide))
  have b91 : mx_b h' 91 = mx_b h 91 := funext fun i => me_b (k := 91) hF hS rfl (w 91 (by decide))
  have f80 : mi_f h' 7680 = mi_f h 7680 := me_f (c := 7680) hF hS rfl w2
  have f90 : mi_f h' 7690 = mi_f h 7690 := me_f (c := 7690) hF hS rfl w3
  have eX : cX h' = cX h := by unfold cX; rw [a79, b80, a82]
  have eB : cB h' = cB h := by unfold cB; rw [a79, a83, a82]
  obtain ⟨c1, c2, c3, c4, c5⟩ := hC
  refine ⟨c1.trans ⟨a63, a64, a65, a66, a68, a69, a71, a72⟩, ?_, ?_, ?_, ?_⟩
  · unfold wx_B pt_ok
    rw [eX, eB, b81, a87, a89, b90, b91, b88]
    exact c2
  · unfold TC
    rw [a63, a64, a65, a66, a68, a69, a71, a72, f80]
    exact c3
  · unfold TP
    rw [f80, f90, a62, a67, a73]
    exact c4
  · unfold k_all k_5 k_6 k_7 k_9 k_8
    rw [f80, f90, a62, a67, a72, a73, a82, a83, b88, a89, b90, b91]
    exact c5
end CAF
theorem k8l_in {dir : Nat → Int64} {pl : Nat → Int} {x : Int} : ∀ (l : List Int) (b : Int64), k8l dir pl l b x → ∃ a ∈ l, x = 8 + 16 * pl a.toNat := by
  intro l
  induction l with
  | nil => intro b h; exact h.elim
  | cons a r ih =>
    intro b h
    rcases h with h | h
    · exact ⟨a, List.mem_cons_self, h.2⟩
    · obtain ⟨a', h1, h2⟩ := ih _ h
      exact ⟨a', List.mem_cons_of_mem _ h1, h2⟩
theorem and_0r (x : Int64) : x &&& 0 = 0 := Int64.and_zero
theorem k8l_0 {dir : Nat → Int64} {pl : Nat → Int} {x a : Int} {r : List Int} (h : k8l dir pl (a :: r) 0 x) : k8l dir pl r (0 ||| dir a.toNat) x := by
  rcases h with h | h
  · exact absurd (and_0r _) h.1
  · exact h
theorem PQ_240 {n : Int} {g : wk_g} (h : PQ n g) (hn : n ≤ 240) : PQ 240 g := by
  obtain ⟨h0, h1, h2, h3⟩ := h
  exact ⟨h0, fun r hr => ⟨(h1 r hr).1, by have := (h1 r hr).2; omega⟩, fun u hu q => ⟨(h2 u hu q).1, by have := (h2 u hu q).2; omega⟩, fun a ha => ⟨⟨(h3 a ha).1.1, by have := (h3 a ha).1.2; omega⟩, (h3 a ha).2⟩⟩
section KPL
variable {f : Int → Int} {ow : Nat → Nat} {g : wk_g} {Y : wk_Y} {hb h h2 : sm_H}
/-- the places of the alternatives that are not the first -/
theorem alt_pl (hq : RQ g h2) (hW : PW g) (hL : sy_L h2 Y) (hQ : PQ 240 g) {F : Nat} (hF : (F : Int) < g 0 2) {j : Nat} (hj : ((j + 1 : Nat) : Int) < g 130 F) : 0 < g 127 (wk_alt g (j + 1) (g 129 F)).toNat ∧ g 127 (wk_alt g (j + 1) (g 129 F)).toNat ≤ 240 := by
  have b := altr hq hW hL hF j (by omega)
  have b1 := altr hq hW hL hF (j + 1) hj
  have k := hQ.2.2.2 (wk_alt g j (g 129 F)).toNat (by omega)
  have k1 := hQ.2.2.2 (wk_alt g (j + 1) (g 129 F)).toNat (by omega)
  refine ⟨?_, k1.1.2⟩
  rw [wk_alt_succ] at b1 ⊢
  exact k.2.2 b1.1
theorem k_plo (hq : RQ g h2) (hC : TC f ow g hb) (hTP : TP g h) (h72 : mi_a h 72 = mi_a hb 72) (hP : PR ow g) (hI : FI f g) (hW : PW g) (hL : sy_L h2 Y) (hQ : PQ 240 g) : k_pl hb h := by
  obtain ⟨⟨t0, t3⟩, t1, t2, t4⟩ := hTP
  obtain ⟨⟨b0, b1, b2, b3, b4⟩, -⟩ := id hP
  refine ⟨by rw [t3]; exact b2, by rw [t0]; exact b0, fun r hr => ?_, fun u hu q => ?_, fun x hx => ?_⟩
  · rw [t3] at hr
    rw [t1 r hr]
    have := hQ.2.1 r hr
    omega
  · rw [t0] at hu
    rw [h72] at q
    have e := (hC.2.2.2.1 u hu).2.2.2
    have c : g 122 u ≠ 0 := fun z => by rw [if_pos z] at e; exact q e
    rw [t4 u hu c]
    have := hQ.2.2.1 u hu c
    omega
  · obtain ⟨F, hF, k⟩ := hx
    have ex : ∃ a, a ∈ cv_A hb F := by
      obtain ⟨a, ha, -⟩ := k8l_in _ _ k
      exact ⟨a, ha⟩
    obtain ⟨a, ha⟩ := ex
    obtain ⟨F', hF', rfl⟩ := cvA_r hC hI hF ha
    rw [cvA_g hq hC hP hW hL hF'] at k
    cases hm : (g 130 F').toNat with
    | zero => rw [hm] at k; exact k.elim
    | succ m =>
      rw [hm] at k
      have k : k8l (mx_b h 88) (mi_a h 67) (g 129 F' :: ra_l g m (g 128 (g 129 F').toNat)) 0 x := k
      obtain ⟨a', h1, h2'⟩ := k8l_in _ _ (k8l_0 k)
      obtain ⟨j, hj, e⟩ := (ra_mem _ _).mp h1
      have e : a' = wk_alt g (j + 1) (g 129 F') := e
      have p := alt_pl hq hW hL hQ hF' (j := j) (by omega)
      have b := altr hq hW hL hF' (j + 1) (by omega)
      rw [← e] at p b
      rw [h2', t2 a'.toNat (by omega) (by omega)]
      omega
end KPL
section TCO
variable {f : Int → Int} {ow : Nat → Nat} {g : wk_g} {Y : wk_Y} {h h2 : sm_H}
theorem tc_Q_fr {h' : sm_H} {U : Int} {wr : List (Nat × Nat)} (hQ : tc_Q h h U) (hS : ab_Sh sx_sk h) (hF : ab_Fr wr h h') (hw : [63, 64, 65, 66, 68, 69, 71, 72].all (fun k => !ab_in wr (k * 128)) = true) (hw2 : ab_in wr 11776 = false) : tc_Q h' h' U := by
  have w : ∀ k, k ∈ [63, 64, 65, 66, 68, 69, 71, 72] → ab_in wr (k * 128) = false := fun k hk => by have := List.all_eq_true.mp hw k hk; simpa using this
  refine tc_Q_eq (h1 := h) (h2 := h) ⟨?_, ?_, ?_, ?_, ?_, ?_, ?_, ?_⟩ (funext fun i => me_a (k := 92) hF hS rfl hw2) hQ
  · exact funext fun i => me_a (k := 63) hF hS rfl (w 63 (by decide))
  · exact funext fun i => me_a (k := 64) hF hS rfl (w 64 (by decide))
  · exact funext fun i => me_a (k := 65) hF hS rfl (w 65 (by decide))
  · exact funext fun i => me_a (k := 66) hF hS rfl (w 66 (by decide))
  · exact funext fun i => me_a (k := 68) hF hS rfl (w 68 (by decide))
  · exact funext fun i => me_a (k := 69) hF hS rfl (w 69 (by decide))
  · exact funext fun i => me_a (k := 71) hF hS rfl (w 71 (by decide))
  · exact funext fun i => me_a (k := 72) hF hS rfl (w 72 (by decide))
theorem tc_of {b : Nat → Int} (hq : RQ g h2) (hC : TC f ow g h) (hP : PR ow g) (hI : FI f g) (hW : PW g) (hL : sy_L h2 Y) (hU : cv_u h (g 0 0)) (hb : bt_g b g) (h01 : g 0 1 ≤ g 0 0) (h90 : mi_f h 7690 = g 0 0) : tc_P h (g 0 0) := by
  obtain ⟨⟨p00, p01, p03, p02, p04⟩, pu, pa, pf⟩ := hP
  obtain ⟨tc1, tc2, tc3, tc4, tc5, tc6, tc7⟩ := hC
  refine ⟨h90, p00, fun u u0 u1 => ⟨(hU.2 u u0 u1).1, fun s10 => ?_⟩⟩
  have hun : ((u.toNat : Nat) : Int) < g 0 0 := by omega
  obtain ⟨t1, t2, t3, t4⟩ := tc4 u.toNat hun
  have c10 : g 119 u.toNat = 10 := t1.symm.trans s10
  obtain ⟨b1, b2⟩ := hb.1 u.toNat hun c10
  have e69 : mi_a h 69 u.toNat = f (g 120 u.toNat) := by rw [t2, if_neg (by omega), if_pos c10]
  obtain ⟨f0, f1, -⟩ := hI.2.2.2 (g 120 u.toNat) b1.1 b1.2
  have eF : (((g 120 u.toNat).toNat : Nat) : Int) = g 120 u.toNat := by omega
  have hFn : (((g 120 u.toNat).toNat : Nat) : Int) < g 0 2 := by omega
  obtain ⟨x1, x2⟩ := tc1 (g 120 u.toNat).toNat hFn
  rw [eF] at x1 x2
  rw [e69, x1, x2]
  refine ⟨⟨f0, by omega⟩, fun q => ?_⟩
  have ef : wk_f Y = g 0 2 := hL.2.2.1.trans hq.1.2.2.1.symm
  have g130 : mi_a h2 130 = g 130 := funext fun i => (hq.2.1 130 (by decide) i).symm
  have g129 : mi_a h2 129 = g 129 := funext fun i => (hq.2.1 129 (by decide) i).symm
  obtain ⟨-, -, d3, -, -, d5⟩ := hL.1.2.2.2 (g 120 u.toNat) b1.1 (by omega)
  rw [g130] at d3 d5
  rw [g129] at d5
  have a0 : 0 ≤ g 129 (g 120 u.toNat).toNat := (d5 0 (by omega)).1
  have a1 := (hW.2.2.2 (g 120 u.toNat).toNat hFn).2
  have hAn : (((g 129 (g 120 u.toNat).toNat).toNat : Nat) : Int) < g 0 1 := by omega
  obtain ⟨s1, -⟩ := tc3 (g 129 (g 120 u.toNat).toNat).toNat hAn
  obtain ⟨⟨s3, s4⟩, -⟩ := pa (g 129 (g 120 u.toNat).toNat).toNat hAn
  rw [s1]
  refine ⟨⟨a0, by omega⟩, ?_⟩
  by_cases c0 : 0 ≤ g 126 (g 129 (g 120 u.toNat).toNat).toNat
  · have := bt_first hb hun c10 a0 c0
    exact Or.inr ⟨by omega, s4⟩
  · exact Or.inl (by omega)
end TCO
def cm_5 (n : Int) (c : Nat → Int) (g0 : wk_g) (w : Option mi_V) (h' : sm_H) : Prop := ∃ y, w = some (.inl y) ∧ mi_in y ∧ (mi_f h' 6543 = if y = 0 then 1 else 0) ∧ ((rz_B n c g0 y ∧ y ≠ 0) ∨ ∃ f ow g hb, rz_D n c g0 g ∧ rz_U g ∧ PR ow g ∧ FI f g ∧ PV 240 g ∧ PW g ∧ g 0 1 ≤ g 0 0 ∧ 1 ≤ g 0 3 ∧ PQ 240 g ∧ (∃ o, PKr o g) ∧ CA f ow g hb h' y ∧ TLW g h' ∧ PL g ∧ PN g ∧ NE0 g ∧ tc_Q h' h' (g 0 0))
section CM5
variable {d : Nat} {h : sm_H} {n : Int} {c : Nat → Int} {g0 : wk_g}
theorem me_compile5 (hS : ab_Sh sx_sk h) (hx : cx_ok h) (en : mi_f h 6657 = n) (ec : mi_a h 53 = c) (hG : PG n c g0) : me_E (d + 33) 12 0 [some (.inr (.inr 51)), none] [] h (cm_5 n c g0) := by
  have n240 : 0 ≤ n ∧ n ≤ 240 := by have := me_fb (c := 6657) hS rfl; omega
  refine mt_cmA hS (fun h1 g1 g2 => ?_)
  have e0 := me_nil g2
  subst e0
  refine ⟨_, me_dropT (d := d) (k := 94) xo_0 rfl (Or.inl rfl) hS, fun w h2 oww hq => ?_⟩
  obtain ⟨rfl, a1, a2⟩ := hq
  refine mt_cmB a1 (fun h3 g1 g2 => ?_)
  have e0 := me_nil g2
  subst e0
  refine ⟨_, me_dropT (d := d) (k := 98) xo_1 rfl (Or.inr rfl) a1, fun w h4 oww hq => ?_⟩
  obtain ⟨rfl, b1, b2⟩ := hq
  have F4 : ab_Fr cm_W h1 h4 := (a2.wide (fun c hc => ab_swr_ok (by decide) hc)).trans (b2.wide (fun c hc => ab_swr_ok (by decide) hc))
  have e57 : mi_f h4 6657 = n := (me_f (c := 6657) F4 hS rfl rfl).trans en
  have e53 : mi_a h4 53 = c := (funext fun i => me_a (k := 53) F4 hS rfl rfl).trans ec
  have x4 : cx_ok h4 := by
    unfold cx_ok
    rw [e57, e53, ← en, ← ec]
    exact hx
  refine mt_cmC b1 (fun h5 g1 g2 => ?_)
  have e0 := me_nil g2
  subst e0
  refine ⟨_, me_readc (d := d) b1 x4 hG.1 e57 e53, fun w h6 oww hq => ?_⟩
  obtain ⟨rfl, r1, r2, r3, r4⟩ := hq
  have kr : kF h6 = 0 ↔ mi_f h6 9730 = 0 := by
    unfold kF
    constructor
    · intro q
      by_cases c : mi_f h6 9730 = 0
      · exact c
      · obtain ⟨-, ⟨k1, k2⟩, k3, k4⟩ := r4 c
        omega
    · intro q
      have := (r3 q).1
      omega
  have okk : mi_in (kF h6) := by
    by_cases c : mi_f h6 9730 = 0
    · rw [kr.mpr c]; exact fm_in0
    · obtain ⟨-, ⟨k1, k2⟩, k3, k4⟩ := r4 c
      unfold kF
      exact ⟨by omega, by omega⟩
  have fin : ∀ (z : Int) (h9 : sm_H), mi_in z → ab_Sh sx_sk h9 → (∀ h10, (mi_f h10 6543 = if z = 0 then 1 else 0) → ab_Fr [(6543, 6544)] h9 h10 → cm_5 n c g0 (some (.inl z)) h10) → me_E (d + 33) 12 57 [some (.inr (.inr 51)), some (.inl z)] [] h9 (cm_5 n c g0) := by
    intro z h9 oz s1 s3
    refine mt_cmG s1 oz ?_ ?_
    · intro c1 h10 t1 t2 t3
      exact s3 h10 (by rw [if_neg c1]; exact t2) t3
    · intro c1 h10 t1 t2 t3
      exact s3 h10 (by rw [if_pos c1]; exact t2) t3
  refine mt_cmD r1 okk ?_ ?_
  · intro c1 h7 s1 s2 s3
    have cf : mi_f h6 9730 ≠ 0 := fun q => c1 (kr.mpr q)
    exact fin _ h7 okk s1 (fun h10 u0 _ => ⟨_, rfl, okk, u0, Or.inl ⟨(r4 cf).1, c1⟩⟩)
  · intro c1 h7 s1 s2 s3
    have cf : mi_f h6 9730 = 0 := kr.mp c1
    obtain ⟨-, f, ow, g, k1, k2, k3, k4, k5, k6, k7, k8⟩ := r3 cf
    have T6 := TC_of k5
    have W6 := TLW_of k5 (by
      obtain ⟨j, a', hj, -⟩ := k1
      exact PS_ruTr j (g0, 0) (Or.inl hG.1.1.1) hj)
    have L6 := PL_D hG.1 k1
    have T7 := TC_fr T6 r1 s3 (by decide)
    have P6 := TP_of k5
    have V := PV_240 k6 n240.2
    obtain ⟨g', h'', Y, p1, p2, p3, p4⟩ : ∃ g h2 Y, rz_D n c g0 g ∧ rz_U g ∧ RQ g h2 ∧ sy_L h2 Y := by
      rcases hG.2 with ⟨f', q⟩ | q
      · exact (rz_xB k1 k2 q).elim
      · exact q
    have eg := rz_DD p1 k1
    subst eg
    have r03 : 1 ≤ g' 0 3 := by
      obtain ⟨j, a', -, -, q⟩ := k1
      have q : g' 0 3 ≠ 0 := q
      have := k3.1.2.2.1
      omega
    have hQ := PQ_240 (PQ_D n240.1 hG.1 k1) n240.2
    obtain ⟨o, hK⟩ := PK_D hG.1 k1
    have hF := CV_F p3 T7 k3 k4 V k8 k2 p4 k7
    have hD := cvD_of p3 T7 k3 k4 k8 p4 hF.1
    have hE := cvE_of p3 T7 k3 k4 k8 p4 hK
    obtain ⟨bb, hbt⟩ := BT_D hG.1 k1
    have hTP7 : tc_P h7 (g' 0 0) := tc_of p3 T7 k3 k4 k8 p4 hF.1 hbt k7 (((me_f (c := 7690) s3 r1 rfl rfl)).trans P6.1.1)
    refine ⟨_, me_setsWorkX (d := d + 25) s1 hF hD hE hTP7, fun w h8 oww hq => ?_⟩
    obtain ⟨⟨rfl, t1, t2, t3⟩, tps⟩ := hq
    have t3 : wx_B h7 h8 := t3
    have e8 := cv_eq_fr t2 s1 (by rfl)
    have T8 := TC_fr T7 s1 t2 (by decide)
    have P8 : TP g' h8 := by
      unfold TP
      rw [me_f (c := 7680) t2 s1 rfl rfl, me_f (c := 7680) s3 r1 rfl rfl, me_f (c := 7690) t2 s1 rfl rfl, me_f (c := 7690) s3 r1 rfl rfl, show mi_a h8 62 = mi_a h6 62 from funext fun i => (me_a (k := 62) t2 s1 rfl rfl).trans (me_a (k := 62) s3 r1 rfl rfl), show mi_a h8 67 = mi_a h6 67 from funext fun i => (me_a (k := 67) t2 s1 rfl rfl).trans (me_a (k := 67) s3 r1 rfl rfl), show mi_a h8 73 = mi_a h6 73 from funext fun i => (me_a (k := 73) t2 s1 rfl rfl).trans (me_a (k := 73) s3 r1 rfl rfl)]
      exact P6
    have hPl : k_pl h7 h8 := k_plo p3 T7 P8 e8.2.2.2.2.2.2.2 k3 k4 k8 p4 hQ
    refine mt_cmE t1 okk (fun h9 g1 g2 => ?_)
    have e0 := me_nil g2
    subst e0
    refine ⟨_, me_firstFault (d := d + 28) t1 hF e8 hPl, fun w h10 oww hq => ?_⟩
    obtain ⟨q1, q2, z, rfl, q3⟩ := hq
    have oz : mi_in z := oww _ rfl
    have C9 : CA f ow g' h7 h9 z := ⟨e8, t3, T8, P8, q3⟩
    have Q9 : tc_Q h9 h9 (g' 0 0) := tc_Q_eq e8 rfl tps
    refine mt_cmF q1 okk oz (fun h11 g1 g2 => ?_)
    have e0 := me_nil g2
    subst e0
    refine fin z h11 oz q1 (fun h12 u0 u2 => ⟨z, rfl, oz, u0, Or.inr ⟨f, ow, g', h7, k1, k2, k3, k4, V, k8, k7, r03, hQ, ⟨o, hK⟩, CA_fr (CA_fr C9 t1 q2 (by decide)) q1 u2 (by decide), TLW_fr (TLW_fr (TLW_fr (TLW_fr W6 r1 s3 (by decide)) s1 t2 (by decide)) t1 q2 (by decide)) q1 u2 (by decide), L6, PN_D hG.1 k1, NE_D hG.1 k1, tc_Q_fr (tc_Q_fr Q9 t1 q2 (by rfl) (by rfl)) q1 u2 (by rfl) (by rfl)⟩⟩)
end CM5
