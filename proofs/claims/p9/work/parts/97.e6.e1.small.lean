/-! the class's parsing walk: what lies in its rows beside the pure one; the next token, enter, leave, which, how often -/
def pq_bit (x : Int64) (k : Int) : Bool := decide (0 ≤ k ∧ (lg_cmp ((((x).toUInt64 >>> ((Int32.ofInt k).toInt64.toUInt64 &&& Int64.toUInt64 63)).toInt64) &&& (Int64.ofNat 1)) (Int64.ofNat 0)).toInt ≠ 0)
def pq_W : List (Nat × Nat) := [(13056, 13057), (13184, 13185), (13312, 13313), (13440, 13441), (13571, 13574), (13575, 13580)]
/-- the j-th token is the next one -/
def pq_K (E : pm_E) (p : Int → Int) (N : Int) (h : sm_H) (j : Int) : Prop := 0 ≤ j ∧ j ≤ N ∧ mi_f h 13577 = E.1 j ∧ ((E.1 j = 1 ∨ E.1 j = 2) → mi_f h 13578 = E.2.1 j) ∧ mi_f h 13575 = p (j + 1)
def pq_R (E : pm_E) (p : Int → Int) (N : Int) (h : sm_H) (s : gm_S) : Prop := gq_T h (gm_T s) ∧ gm_len s ≤ 100 ∧ pq_K E p N h (gm_F s) ∧ pm_K E s ≠ -1
def pq_in (E : pm_E) (p : Int → Int) (N : Int) (h : sm_H) (u : Int) (s : gm_S) : Prop := ab_Sh sx_sk h ∧ mi_f h 13571 = 0 ∧ mi_f h 13572 = 0 ∧ mi_f h 13573 = u ∧ mi_f h 13579 = -1 ∧ pq_R E p N h s
def pq_bad (h : sm_H) : Prop := mi_f h 13571 = 1 ∧ (mi_f h 13572 = 1 ∨ 0 ≤ mi_f h 13579)
/-- the sets of both sides -/
def cs_G (E : pm_E) (g : wk_g) (Y : wk_Y) (h : sm_H) : Prop := (∀ u, 0 ≤ u → u < wk_u Y → ∀ k, pq_bit (mx_b h 90 u.toNat) k = E.2.2.1 u k) ∧ (∀ F, 0 ≤ F → F < wk_f Y → ∀ j : Nat, (j : Int) < g 130 F.toNat → ∀ k, pq_bit (mx_b h 88 (wk_alt g j (g 129 F.toNat)).toNat) k = E.2.2.2 F (wk_alt g j (g 129 F.toNat)) k) ∧ ∀ u, 0 ≤ u → u < wk_u Y → (g 119 u.toNat = 1 → (∀ k, k < 64 → (E.2.2.1 u k = true ↔ k = 1)) ∧ mi_a h 69 u.toNat = g 120 u.toNat ∧ 0 ≤ g 120 u.toNat ∧ g 120 u.toNat ≤ 9) ∧ (g 119 u.toNat = 2 → ∀ k, k < 64 → (E.2.2.1 u k = true ↔ k = 2)) ∧ (g 119 u.toNat = 8 → 0 ≤ g 120 u.toNat ∧ ∀ k, k < 64 → (E.2.2.1 u k = true ↔ k = 3 + g 120 u.toNat)) ∧ (g 119 u.toNat ≠ 1 → g 119 u.toNat ≠ 2 → g 119 u.toNat ≠ 8 → g 119 u.toNat ≠ 9 → g 119 u.toNat ≠ 10 → mx_b h 90 u.toNat = Int64.ofNat 0)
def cs_w (wr : List (Nat × Nat)) : Bool := ab_in wr 11520 || ab_in wr 11264 || ab_in wr 8832
theorem cs_G_fr {E : pm_E} {g : wk_g} {Y : wk_Y} {h h' : sm_H} {wr : List (Nat × Nat)} (hG : cs_G E g Y h) (hF : ab_Fr wr h h') (hS : ab_Sh sx_sk h) (hw : cs_w wr = false) : cs_G E g Y h' := by
  unfold cs_w at hw
  simp only [Bool.or_eq_false_iff] at hw
  have e1 : ∀ i, mx_b h' 90 i = mx_b h 90 i := fun i => me_b (k := 90) hF hS rfl hw.1.1
  have e2 : ∀ i, mx_b h' 88 i = mx_b h 88 i := fun i => me_b (k := 88) hF hS rfl hw.1.2
  have e3 : ∀ i, mi_a h' 69 i = mi_a h 69 i := fun i => me_a (k := 69) hF hS rfl hw.2
  unfold cs_G at hG ⊢
  simp only [e1, e2, e3]
  exact hG
def tx_h (h h0 : sm_H) : Prop := mi_f h 6913 = mi_f h0 6913 ∧ (∀ i, mi_a h 55 i = mi_a h0 55 i) ∧ mi_f h 7698 = mi_f h0 7698 ∧ ∀ i, mi_a h 75 i = mi_a h0 75 i
theorem tx_h_fr {h h' h0 : sm_H} {wr : List (Nat × Nat)} (hx : tx_h h h0) (hF : ab_Fr wr h h') (hS : ab_Sh sx_sk h) (w1 : ab_in wr 6913 = false) (w2 : ab_in wr 7040 = false) (w3 : ab_in wr 7698 = false) (w4 : ab_in wr 9600 = false) : tx_h h' h0 := ⟨(me_f (c := 6913) hF hS rfl w1).trans hx.1, fun i => (me_a (k := 55) hF hS rfl w2).trans (hx.2.1 i), (me_f (c := 7698) hF hS rfl w3).trans hx.2.2.1, fun i => (me_a (k := 75) hF hS rfl w4).trans (hx.2.2.2 i)⟩
/-- what takeToken does -/
def pq_tok (E : pm_E) (p : Int → Int) (N : Int) (h0 : sm_H) : Prop := ∀ (d : Nat) (h : sm_H) (j : Int), ab_Sh sx_sk h → tx_h h h0 → 0 ≤ j → j ≤ N → mi_f h 13575 = p j → me_E (d + 8) 106 0 [some (.inr (.inr 106)), none] [] h (fun w h' => w = none ∧ ab_Sh sx_sk h' ∧ ab_Fr [(13571, 13572), (13575, 13580)] h h' ∧ mi_f h' 13577 = E.1 j ∧ ((E.1 j = 1 ∨ E.1 j = 2) → mi_f h' 13578 = E.2.1 j) ∧ mi_f h' 13575 = p (j + 1) ∧ ((E.1 j = -1 ∧ mi_f h' 13571 = 1 ∧ 0 ≤ mi_f h' 13579) ∨ (E.1 j ≠ -1 ∧ mi_f h' 13571 = mi_f h 13571 ∧ mi_f h' 13579 = mi_f h 13579)))
/-- turns of the pure walk -/
def pm_RO (g : wk_g) (E : pm_E) (m : Option gm_C) (c : gm_C) : Prop := ∃ c1 n, m = some c1 ∧ pw_to (pm_st g E 0) n c1 c
def pm_NOc (g : wk_g) (E : pm_E) (c : gm_C) : Prop := ∀ (n : Nat) (s' : gm_S), pw_to (pm_st g E 0) n c ([], s') → pm_K E s' ≠ 0
def pm_NO (g : wk_g) (E : pm_E) (m : Option gm_C) : Prop := ∀ c1, m = some c1 → pm_NOc g E c1
section PQ0
variable {g : wk_g} {E : pm_E}
theorem pRO_refl {c : gm_C} : pm_RO g E (some c) c := ⟨c, 0, rfl, rfl⟩
theorem pRO_step {m : Option gm_C} {c : gm_C} {e : wk_E} {r : List wk_E} {s : gm_S} (h1 : pm_RO g E m (e :: r, s)) (h2 : pm_RO g E (pm_st g E 0 e r s) c) : pm_RO g E m c := by
  obtain ⟨c1, n, a1, a2⟩ := h1
  obtain ⟨c2, k, b1, b2⟩ := h2
  exact ⟨c1, n + (1 + k), a1, pw_app (pw_app b2 1 _ (pw_one b1)) n _ a2⟩
theorem pNO_of {m : Option gm_C} {c : gm_C} (h1 : pm_RO g E m c) (h2 : pm_NOc g E c) : pm_NO g E m := by
  obtain ⟨c1, n, a1, a2⟩ := h1
  intro c1' e k s' hk
  rw [a1] at e
  injection e with e
  subst e
  by_cases c : n ≤ k
  · exact h2 _ _ (pw_det _ _ _ a2 hk c)
  · have := pw_det _ _ _ hk a2 (by omega)
    have := (pw_end _ this).1
    omega
theorem pNO_step {m : Option gm_C} {e : wk_E} {r : List wk_E} {s : gm_S} (h1 : pm_RO g E m (e :: r, s)) (h2 : pm_NO g E (pm_st g E 0 e r s)) : pm_NO g E m := by
  refine pNO_of h1 (fun n s' hn => ?_)
  cases n with
  | zero => exact (pw_0 hn).elim
  | succ n =>
    obtain ⟨c1, k1, k2⟩ := pw_cons hn
    exact h2 c1 k1 n s' k2
theorem pNO_none {m : Option gm_C} (h : m = none) : pm_NO g E m := fun c1 e => by rw [h] at e; cases e
theorem pNO_bad {m : Option gm_C} {r : List wk_E} {s : gm_S} (h1 : pm_RO g E m (r, s)) (hk : pm_K E s = -1) : pm_NO g E m := by
  refine pNO_of h1 (fun n s' hn => ?_)
  have := pm_to_bad _ _ hn (by show pm_K E s < 1; omega)
  dsimp only at this
  unfold pm_K at hk ⊢
  rw [this, hk]
  decide
end PQ0
def pq_Q (E : pm_E) (p : Int → Int) (N : Int) (g : wk_g) (h0 : sm_H) (u : Int) (M : List wk_E → Option gm_C) (s : gm_S) (w : Option mi_V) (h' : sm_H) : Prop := w = none ∧ ab_Sh sx_sk h' ∧ ab_Fr pq_W h0 h' ∧ mi_f h' 13573 = u ∧ ((pq_bad h' ∧ ∀ r, wk_ul r = u → pm_NO g E (M r)) ∨ (mi_f h' 13571 = 0 ∧ mi_f h' 13572 = 0 ∧ mi_f h' 13579 = -1 ∧ ∃ s', pq_R E p N h' s' ∧ gm_D s' = gm_D s ∧ pq_A h0 s (gm_D s) h' s' ∧ ∀ r, wk_ul r = u → pm_RO g E (M r) (r, s')))
section PQ1
variable {E : pm_E} {p : Int → Int} {N : Int} {h h' : sm_H} {s : gm_S} {d : Nat} {wr : List (Nat × Nat)}
theorem pq_bad_fr (hb : pq_bad h) (hF : ab_Fr wr h h') (hS : ab_Sh sx_sk h) (w1 : ab_in wr 13571 = false) (w2 : ab_in wr 13572 = false) (w3 : ab_in wr 13579 = false) : pq_bad h' := by
  refine ⟨(me_f (c := 13571) hF hS rfl w1).trans hb.1, ?_⟩
  rw [me_f (c := 13572) hF hS rfl w2, me_f (c := 13579) hF hS rfl w3]
  exact hb.2
theorem pq_K_fr {j : Int} (hK : pq_K E p N h j) (hF : ab_Fr wr h h') (hS : ab_Sh sx_sk h) (w1 : ab_in wr 13577 = false) (w2 : ab_in wr 13578 = false) (w3 : ab_in wr 13575 = false) : pq_K E p N h' j := by
  unfold pq_K at hK ⊢
  rw [me_f (c := 13577) hF hS rfl w1, me_f (c := 13578) hF hS rfl w2, me_f (c := 13575) hF hS rfl w3]
  exact hK
def pq_w (wr : List (Nat × Nat)) : Bool := ab_in wr 13577 || ab_in wr 13578 || ab_in wr 13575
theorem pq_R_fr (hR : pq_R E p N h s) (hF : ab_Fr wr h h') (hS : ab_Sh sx_sk h) (w1 : gq_w wr = false) (w2 : pq_w wr = false) : pq_R E p N h' s := by
  unfold pq_w at w2
  simp only [Bool.or_eq_false_iff] at w2
  exact ⟨gq_T_fr hR.1 hF hS w1, hR.2.1, pq_K_fr hR.2.2.1 hF hS w2.1.1 w2.1.2 w2.2, hR.2.2.2⟩
theorem pq_R_D {t : gm_S} (hR : pq_R E p N h s) (e1 : gm_T t = gm_T s) (e3 : gm_F t = gm_F s) : pq_R E p N h t := by
  unfold pq_R gm_len pm_K at hR ⊢
  rw [e1, e3]
  exact hR
theorem me_pnext {zs : Int64} (hS : ab_Sh sx_sk h) : me_E d 125 0 [some (.inr (.inr 106)), some (.inr (.inl zs)), none] [] h (fun w h' => h' = h ∧ w = some (.inl (if pq_bit zs (mi_f h 13577) = true then 1 else 0))) := by
  refine mt_kpns hS ?_ ?_ ?_
  · intro b c h1 g1 g2
    refine ⟨me_nil g2, ?_⟩
    have e : ¬ pq_bit zs (mi_f h 13577) = true := by
      unfold pq_bit
      rw [decide_eq_true_eq]
      exact fun z => by omega
    rw [if_neg e]
  · intro b c1 c2 h1 g1 g2
    refine ⟨me_nil g2, ?_⟩
    have e : ¬ pq_bit zs (mi_f h 13577) = true := by
      unfold pq_bit
      rw [decide_eq_true_eq]
      exact fun z => z.2 c2
    rw [if_neg e]
  · intro b c1 c2 h1 g1 g2
    refine ⟨me_nil g2, ?_⟩
    have e : pq_bit zs (mi_f h 13577) = true := by
      unfold pq_bit
      rw [decide_eq_true_eq]
      exact ⟨c1, c2⟩
    rw [if_pos e]
def pq_en : List (Nat × Nat) := [(13056, 13057), (13184, 13185), (13312, 13313), (13440, 13441), (13571, 13573)]
theorem me_penter {zk zv : Int} (hS : ab_Sh sx_sk h) (hk0 : 0 ≤ zk ∧ zk < 10) (ov : mi_in zv) (h0 : mi_f h 13571 = 0) (h1 : mi_f h 13572 = 0) (hR : pq_R E p N h s) : me_E (d + 2) 116 0 [some (.inr (.inr 106)), some (.inl zk), some (.inl zv), none] [] h (fun w h' => ab_Sh sx_sk h' ∧ ab_Fr pq_en h h' ∧ ((gm_c zk zv s = none ∧ w = some (.inl (-1)) ∧ mi_f h' 13571 = 1 ∧ mi_f h' 13572 = 1) ∨ (∃ t, gm_c zk zv s = some t ∧ w = some (.inl (gm_len s)) ∧ mi_f h' 13571 = 0 ∧ mi_f h' 13572 = 0 ∧ pq_R E p N h' t ∧ ∀ i, mi_a h' 105 i = if i = (gm_T s).length then 0 else mi_a h 105 i))) := by
  obtain ⟨⟨r1, r5⟩, r2, r3, r4⟩ := hR
  have rl : gm_len s = ((gm_T s).length : Int) := rfl
  have ok : mi_in zk := ⟨by omega, by omega⟩
  refine mt_kpen hS ok ov ?_ ?_ ?_ ?_ ?_
  · intro b c1 c2
    exfalso; omega
  · intro b c1 c2
    exfalso; omega
  · intro b c1 c2 c3
    refine ⟨⟨⟨by omega, by omega⟩, ⟨by omega, by omega⟩, by omega, by omega⟩, fun h1' g1 g2 g3 g4 g5 g6 => ?_⟩
    refine ⟨g1, g6.wide (fun c hc => ab_swr_ok (by decide) hc), Or.inr ⟨(gm_X s, gm_F s, gm_T s ++ [(zk + 10 * ((gm_T s).length : Int), zv, gm_D s)], gm_D s, gm_P s), ?_, ?_, (me_f (c := 13571) g6 hS rfl rfl).trans h0, (me_f (c := 13572) g6 hS rfl rfl).trans h1, ?_, ?_⟩⟩
    · unfold gm_c
      rw [if_neg (by omega)]
    · have e : mi_f h 13056 + 1 - 1 = gm_len s := by omega
      rw [e]
    · have el : (gm_T s ++ [(zk + 10 * ((gm_T s).length : Int), zv, gm_D s)]).length = (gm_T s).length + 1 := by rw [List.length_append]; rfl
      unfold pq_R gm_len pm_K
      simp only [gm_T_mk, gm_F_mk]
      refine ⟨⟨by rw [el, g2, r1]; omega, fun k hk => ?_⟩, by rw [el]; omega, pq_K_fr r3 g6 hS rfl rfl rfl, r4⟩
      rw [el] at hk
      rw [g3, g4]
      by_cases c : k = (gm_T s).length
      · refine ⟨gm_D s, ((gm_T s).length : Int), ?_⟩
        rw [if_pos (by omega), if_pos (by omega)]
        refine ⟨?_, hk0⟩
        rw [c, List.getElem?_append_right (Nat.le_refl _), Nat.sub_self]
        rfl
      · obtain ⟨l, q, hl⟩ := r5 k (by omega)
        refine ⟨l, q, ?_⟩
        rw [if_neg (by omega), if_neg (by omega), List.getElem?_append_left (by omega)]
        exact hl
    · intro i
      rw [g5]
      have e : Int.toNat (mi_f h 13056) = (gm_T s).length := by omega
      rw [e]
  · intro b c1 c2 c3
    exfalso; omega
  · intro b c1 h1' g1 g2 g3 g4
    refine ⟨g1, g4.wide (fun c hc => ab_swr_ok (by decide) hc), Or.inl ⟨?_, rfl, g2, g3⟩⟩
    unfold gm_c
    rw [if_pos (by omega)]
/-- a node is left -/
theorem me_pleave0 {zk : Int} (hS : ab_Sh sx_sk h) (ok : mi_in zk) : me_E (d + 2) 147 0 [some (.inr (.inr 106)), some (.inl zk)] [] h (fun w h' => w = none ∧ ab_Sh sx_sk h' ∧ ab_Fr [(13440, 13441)] h h') := by
  have k := me_abs (M := (2, 0, sb_147)) (as := [.inr (.inr 106), .inl zk]) xo_195 rfl hS ⟨rfl, me_nv1 ok ok.1 ok.2, trivial⟩ (fun e he => by cases he) (by decide)
  refine (me_E.deep (d' := d + 2) k (by show 2 ≤ d + 2; omega)).imp (fun w h' hq => ⟨?_, hq.1, hq.2.1⟩)
  obtain ⟨-, -, p, -, hp, -⟩ := hq
  unfold mi_res at hp
  rw [if_pos rfl] at hp
  exact hp
theorem me_pleave {n : Nat} (hS : ab_Sh sx_sk h) (hn : n < 100) (hc0 : 0 ≤ mi_f h 13056) (hc : mi_f h 13056 ≤ 100) : me_E (d + 2) 147 0 [some (.inr (.inr 106)), some (.inl (n : Int))] [] h (fun w h' => w = none ∧ ab_Sh sx_sk h' ∧ ab_Fr [(13440, 13441)] h h' ∧ ∀ i, mi_a h' 105 i = if i = n then mi_f h 13056 - 1 - n else mi_a h 105 i) := by
  refine mt_kple hS ⟨by omega, by omega⟩ (by intros; exfalso; omega) (by intros; exfalso; omega) ?_
  intro b c1 c2
  refine ⟨⟨⟨by omega, by omega⟩, ⟨by omega, by omega⟩, by omega, by omega⟩, fun h1 g1 g2 g3 => ⟨rfl, g1, g3, ?_⟩⟩
  rw [Int.toNat_natCast] at g2
  exact g2
theorem me_ppairs0 {za zb : Int} (hS : ab_Sh sx_sk h) (oa : mi_in za) (ob : mi_in zb) : me_E (d + 4) 152 0 [some (.inr (.inr 106)), some (.inl za), some (.inl zb)] [] h (fun w h' => w = none ∧ ab_Sh sx_sk h' ∧ ab_Fr [(13184, 13185), (13312, 13313), (13440, 13441)] h h') := by
  have k := me_abs (M := (3, 0, sb_152)) (as := [.inr (.inr 106), .inl za, .inl zb]) xo_211 rfl hS ⟨rfl, me_nv1 oa oa.1 oa.2, me_nv1 ob ob.1 ob.2, trivial⟩ (fun e he => by cases he) (by decide)
  refine (me_E.deep (d' := d + 4) k (by show 4 ≤ d + 4; omega)).imp (fun w h' hq => ⟨?_, hq.1, hq.2.1⟩)
  obtain ⟨-, -, p, -, hp, -⟩ := hq
  unfold mi_res at hp
  rw [if_pos rfl] at hp
  exact hp
theorem me_pexch {a m : Nat} {T : List (Int × Int × Int)} (hS : ab_Sh sx_sk h) (hT : gq_T h T) (h1 : a ≤ m) (h2 : m ≤ T.length) (h3 : T.length ≤ 100) : me_E (d + 4) 152 0 [some (.inr (.inr 106)), some (.inl (a : Int)), some (.inl (m : Int))] [] h (fun w h' => w = none ∧ ab_Sh sx_sk h' ∧ ab_Fr tr_W h h' ∧ gq_T h' (gm_rot a m T) ∧ ∀ i, i < T.length → mi_a h' 105 i = mi_a h 105 (ro_i a m T.length i)) := by
  have oa : mi_in (a : Int) := ⟨by omega, by omega⟩
  have om : mi_in (m : Int) := ⟨by omega, by omega⟩
  refine mt_kppA hS oa om ?_
  intro ha a1 a2
  have e := me_nil a2
  subst e
  refine ⟨_, me_sexch (d := d) a1 hT h1 h2 h3, fun w h' hw hq => ?_⟩
  obtain ⟨rfl, q1, q2, q3⟩ := hq
  refine mt_kppB q1 oa om ?_
  intro hb b1 b2
  have e := me_nil b2
  subst e
  exact ⟨rfl, b1, q2, q3⟩
end PQ1
section PQ2
variable {E : pm_E} {p : Int → Int} {N : Int} {h : sm_H} {s : gm_S} {d : Nat} {f : Int → Int} {it : Int → Prop} {g : wk_g} {Y : wk_Y} {F : Int}
theorem pc14 (hS : ab_Sh sx_sk h) (hF : cg_F f it g h F) (hd : ∀ j : Nat, (j : Int) < g 130 F.toNat → ∀ k, pq_bit (mx_b h 88 (wk_alt g j (g 129 F.toNat)).toNat) k = E.2.2.2 F (wk_alt g j (g 129 F.toNat)) k) (hK : mi_f h 13577 = pm_K E s) : ∀ (M j : Nat), g 130 F.toNat - j = M → mi_in (wk_alt g j (g 129 F.toNat)) → me_E (d + 2) 124 14 [some (.inr (.inr 106)), some (.inl (f F)), some (.inl (wk_alt g j (g 129 F.toNat))), some (.inl (j : Int))] [] h (fun w h' => (∃ n, pm_dr g (fun a => E.2.2.2 F a (pm_K E s)) M (wk_alt g j (g 129 F.toNat)) (j : Int) = some n ∧ h' = h ∧ w = some (.inl n)) ∨ (pm_dr g (fun a => E.2.2.2 F a (pm_K E s)) M (wk_alt g j (g 129 F.toNat)) (j : Int) = none ∧ w = some (.inl 0) ∧ ab_Sh sx_sk h' ∧ ab_Fr [(13571, 13572), (13579, 13580)] h h' ∧ mi_f h' 13571 = 1 ∧ mi_f h' 13579 = mi_f h 13576)) := by
  obtain ⟨⟨f0, f1⟩, f2, f3, f4, f5⟩ := hF
  have of : mi_in (f F) := ⟨by omega, by omega⟩
  intro M
  induction M with
  | zero =>
    intro j h1 oa
    have oj : mi_in (j : Int) := ⟨by omega, by omega⟩
    refine mt_kpcB hS of oa oj (by intros; exfalso; omega) (by intros; exfalso; omega) (by intros; exfalso; omega) (by intros; exfalso; omega) (by intros; exfalso; omega) (by intros; exfalso; omega) ?_ ?_ ?_
    · intro c1 c2 c3
      refine ⟨⟨by omega, by omega⟩, fun h1 g1 g2 => ?_⟩
      have e := me_nil g2
      subst e
      refine mt_kpcF hS of oa oj ?_
      intro h2 r1 r2 r3 r4
      exact Or.inr ⟨rfl, rfl, r1, r4, r2, r3⟩
    · intro c1 c2 c3 c4
      rw [f3] at c3
      exfalso; omega
    · intro c1 c2 c3 c4
      rw [f3] at c3
      exfalso; omega
  | succ M ih =>
    intro j h1 oa
    have oj : mi_in (j : Int) := ⟨by omega, by omega⟩
    obtain ⟨⟨p1, p2⟩, p3, p4, -⟩ := f5 j (by omega)
    have es := wk_alt_succ g j (g 129 F.toNat)
    have oa2 : mi_in (wk_alt g (j + 1) (g 129 F.toNat)) := by
      rw [es, ← p4]
      exact mi_inT _
    have key := ih (j + 1) (by omega) oa2
    rw [es] at key
    have hdj := hd j (by omega) (mi_f h 13577)
    generalize wk_alt g j (g 129 F.toNat) = a at p1 p2 p4 oa key hdj ⊢
    rw [pm_dr_s]
    refine mt_kpcB hS of oa oj (by intros; exfalso; omega) (by intros; exfalso; omega) (by intros; exfalso; omega) (by intros; exfalso; omega) (by intros; exfalso; omega) (by intros; exfalso; omega) ?_ ?_ ?_
    · intro c1 c2 c3
      rw [f3] at c3
      exfalso; omega
    · intro c1 c2 c3 c4
      exfalso; omega
    · intro c1 c2 c3 c4
      refine ⟨⟨by omega, by omega⟩, fun h2 g1 g2 => ?_⟩
      have e := me_nil g2
      subst e
      refine mt_kpcC hS of oa oj (by intros; exfalso; omega) (by intros; exfalso; omega) ?_
      intro c5 c6
      refine ⟨⟨by omega, by omega⟩, fun h3 g3 g4 => ?_⟩
      have e := me_nil g4
      subst e
      refine ⟨_, me_pnext hS, fun w h4 hw hq => ?_⟩
      obtain ⟨rfl, rfl⟩ := hq
      rw [hdj, hK]
      by_cases cb : E.2.2.2 F a (pm_K E s) = true
      · rw [if_pos cb, if_pos cb]
        refine mt_kpcD hS of oa oj ⟨by decide, by decide⟩ (by intro c; exact absurd c (by decide)) ?_
        intro c h5 r1 r2
        exact Or.inl ⟨(j : Int), rfl, me_nil r2, rfl⟩
      · rw [if_neg cb, if_neg cb]
        refine mt_kpcD hS of oa oj ⟨by decide, by decide⟩ ?_ (by intro c; exact absurd rfl c)
        intro c h5 r1 r2
        have e := me_nil r2
        subst e
        refine mt_kpcE hS of oa oj (by intros; exfalso; omega) (by intros; exfalso; omega) ?_
        intro c7 c8
        refine ⟨⟨⟨by omega, by omega⟩, by omega, by omega⟩, fun h6 k1 k2 => ?_⟩
        have e := me_nil k2
        subst e
        rw [p4]
        exact key
/-- which alternative comes -/
theorem me_pchosen (hS : ab_Sh sx_sk h) (hF : cg_F f it g h F) (h1 : 1 ≤ g 130 F.toNat) (hd : ∀ j : Nat, (j : Int) < g 130 F.toNat → ∀ k, pq_bit (mx_b h 88 (wk_alt g j (g 129 F.toNat)).toNat) k = E.2.2.2 F (wk_alt g j (g 129 F.toNat)) k) (hK : mi_f h 13577 = pm_K E s) : me_E (d + 2) 124 0 [some (.inr (.inr 106)), some (.inl (f F)), none, none] [] h (fun w h' => (∃ n, pm_w g E F s = some n ∧ h' = h ∧ w = some (.inl n)) ∨ (pm_w g E F s = none ∧ w = some (.inl 0) ∧ ab_Sh sx_sk h' ∧ ab_Fr [(13571, 13572), (13579, 13580)] h h' ∧ mi_f h' 13571 = 1 ∧ mi_f h' 13579 = mi_f h 13576)) := by
  obtain ⟨⟨f0, f1⟩, f2, f3, f4, f5⟩ := id hF
  have of : mi_in (f F) := ⟨by omega, by omega⟩
  refine mt_kpcA hS of (by intros; exfalso; omega) (by intros; exfalso; omega) ?_
  intro c1 c2
  refine ⟨⟨by omega, by omega⟩, fun h1' g1 g2 => ?_⟩
  have e3 := me_nil g2
  subst e3
  rw [f2]
  have o9 : mi_in (wk_alt g 0 (g 129 F.toNat)) := by
    show mi_in (g 129 F.toNat)
    rw [← f2]
    exact mi_inT _
  exact pc14 hS hF hd hK (g 130 F.toNat).toNat 0 (by omega) o9
/-- whether it goes on -/
theorem me_pgoes {zp zt : Int} {n : Nat} (hS : ab_Sh sx_sk h) (p0 : 0 ≤ zp) (p1 : zp < 60) (hn : n < 100) (t0 : 0 ≤ zt) (t1 : zt ≤ 200) (hd : pq_bit (mx_b h 90 zp.toNat) (mi_f h 13577) = pm_h E zp s) : me_E (d + 2) 144 0 [some (.inr (.inr 106)), some (.inl zp), some (.inl (n : Int)), some (.inl zt), none] [] h (fun w h' => (pm_h E zp s = true ∧ w = some (.inl 1) ∧ ab_Sh sx_sk h' ∧ ab_Fr [(13312, 13313)] h h' ∧ ∀ i, mi_a h' 104 i = if i = n then zt + 1 else mi_a h 104 i) ∨ (¬ pm_h E zp s = true ∧ w = some (.inl 0) ∧ h' = h)) := by
  have op : mi_in zp := ⟨by omega, by omega⟩
  have on : mi_in (n : Int) := ⟨by omega, by omega⟩
  have ot : mi_in zt := ⟨by omega, by omega⟩
  refine mt_kpgA hS op on ot (by intros; exfalso; omega) (by intros; exfalso; omega) ?_
  intro c1 c2
  refine ⟨⟨by omega, by omega⟩, fun h1 g1 g2 => ?_⟩
  have e := me_nil g2
  subst e
  refine ⟨_, me_pnext hS, fun w h2 hw hq => ?_⟩
  obtain ⟨rfl, rfl⟩ := hq
  rw [hd]
  by_cases cb : pm_h E zp s = true
  · rw [if_pos cb]
    refine mt_kpgB hS op on ot ⟨by decide, by decide⟩ (by intro c; exact absurd c (by decide)) (by intros; exfalso; omega) (by intros; exfalso; omega) ?_
    intro c3 c4 c5
    refine ⟨⟨⟨by omega, by omega⟩, by omega, by omega⟩, fun h3 r1 r2 r3 => Or.inl ⟨cb, rfl, r1, r3, ?_⟩⟩
    rw [Int.toNat_natCast] at r2
    exact r2
  · rw [if_neg cb]
    refine mt_kpgB hS op on ot ⟨by decide, by decide⟩ ?_ (by intro c; exact absurd rfl c) (by intro c; exact absurd rfl c) (by intro c; exact absurd rfl c)
    intro c
    exact ⟨Or.inl rfl, fun h3 r1 r2 => Or.inr ⟨cb, rfl, me_nil r2⟩⟩
end PQ2
