/-! the class prints a tree's nodes: rows, leaves, behind -/
/-- nodes in the rows of the class's tree, from the q-th on -/
def rh (h : sm_H) (q : Nat) (A : List (Int × Int × Int)) : Prop := (∀ k : Nat, k < A.length → (A.map (fun x => x.2.1))[k]? = some (mi_a h 96 (q + k))) ∧ ∀ k : Nat, k < A.length → (sz A)[k]? = some (mi_a h 97 (q + k))
theorem rh_fr {h h' : sm_H} {q : Nat} {A : List (Int × Int × Int)} {wr : List (Nat × Nat)} (hr : rh h q A) (hF : ab_Fr wr h h') (hS : ab_Sh sx_sk h) (hw : (ab_in wr 12288 || ab_in wr 12416) = false) : rh h' q A := by
  simp only [Bool.or_eq_false_iff] at hw
  exact ⟨fun k hk => by rw [me_a (k := 96) hF hS rfl hw.1]; exact hr.1 k hk, fun k hk => by rw [me_a (k := 97) hF hS rfl hw.2]; exact hr.2 k hk⟩
theorem rh_app {h : sm_H} {q : Nat} {D : Int} {A B : List (Int × Int × Int)} (fA : fo D A) (fB : fo D B) (hr : rh h q (A ++ B)) : rh h q A ∧ rh h (q + A.length) B := by
  have lA : (A.map (fun x => x.2.1)).length = A.length := List.length_map _
  refine ⟨⟨fun k hk => ?_, fun k hk => ?_⟩, fun k hk => ?_, fun k hk => ?_⟩
  · have := hr.1 k (by rw [List.length_append]; omega)
    rw [List.map_append, List.getElem?_append_left (by omega)] at this
    exact this
  · have := hr.2 k (by rw [List.length_append]; omega)
    rw [sz_app fB A fA.1, List.getElem?_append_left (by rw [sz_len]; exact hk)] at this
    exact this
  · have := hr.1 (A.length + k) (by rw [List.length_append]; omega)
    rw [List.map_append, List.getElem?_append_right (by omega), lA, Nat.add_sub_cancel_left, ← Nat.add_assoc] at this
    exact this
  · have := hr.2 (A.length + k) (by rw [List.length_append]; omega)
    rw [sz_app fB A fA.1, List.getElem?_append_right (by rw [sz_len]; omega), sz_len, Nat.add_sub_cancel_left, ← Nat.add_assoc] at this
    exact this
theorem rh_cons {h : sm_H} {q : Nat} {D k v : Int} {B : List (Int × Int × Int)} (fB : fo (D + 1) B) (hr : rh h q ((k, v, D) :: B)) : mi_a h 96 q = v ∧ mi_a h 97 q = (B.length : Int) ∧ rh h (q + 1) B := by
  refine ⟨?_, ?_, fun j hj => ?_, fun j hj => ?_⟩
  · have := hr.1 0 (Nat.succ_pos _)
    have this : some v = some (mi_a h 96 q) := this
    injection this with this
    exact this.symm
  · have := hr.2 0 (Nat.succ_pos _)
    rw [sz_cons fB] at this
    have this : some (B.length : Int) = some (mi_a h 97 q) := this
    injection this with this
    exact this.symm
  · have := hr.1 (j + 1) (Nat.succ_lt_succ hj)
    rw [Nat.add_assoc, Nat.add_comm 1 j]
    exact this
  · have := hr.2 (j + 1) (Nat.succ_lt_succ hj)
    rw [sz_cons fB] at this
    rw [Nat.add_assoc, Nat.add_comm 1 j]
    exact this
theorem sz_drop : ∀ (k : Nat) (A : List (Int × Int × Int)), sz (A.drop k) = (sz A).drop k := by
  intro k
  induction k with
  | zero => intro A; rfl
  | succ k ih =>
    intro A
    cases A with
    | nil => rfl
    | cons x A => exact ih A
theorem rh_drop {h : sm_H} {q k : Nat} {A : List (Int × Int × Int)} (hr : rh h q A) : rh h (q + k) (A.drop k) := by
  refine ⟨fun j hj => ?_, fun j hj => ?_⟩
  · rw [List.length_drop] at hj
    rw [List.map_drop, List.getElem?_drop, hr.1 (k + j) (by omega), Nat.add_assoc]
  · rw [List.length_drop] at hj
    rw [sz_drop, List.getElem?_drop, hr.2 (k + j) (by omega), Nat.add_assoc]
/-- the first of some nodes side by side, with all that is in it -/
theorem fo_first {h : sm_H} {q : Nat} {D : Int} {x : Int × Int × Int} {A : List (Int × Int × Int)} (hf : fo D (x :: A)) (hr : rh h q (x :: A)) : ∃ (j : Nat) (C : List (Int × Int × Int)), A.length = j + C.length ∧ mi_a h 97 q = (j : Int) ∧ fo D C ∧ tpc D (x :: A) = 1 + tpc D C ∧ rh h (q + (1 + j)) C := by
  have hx := hf.2 x A rfl
  obtain ⟨B, hB⟩ : ∃ B, B = A.takeWhile (fun y => decide (D < y.2.2)) := ⟨_, rfl⟩
  obtain ⟨C, hC⟩ : ∃ C, C = A.dropWhile (fun y => decide (D < y.2.2)) := ⟨_, rfl⟩
  have e : A = B ++ C := by rw [hB, hC, List.takeWhile_append_dropWhile]
  have hBl : ∀ y ∈ B, D < y.2.2 := fun y hy => by
    rw [hB] at hy
    have := List.all_eq_true.mp List.all_takeWhile y hy
    rw [decide_eq_true_eq] at this
    exact this
  have fC : fo D C := by
    refine ⟨fun y hy => hf.1 y (List.mem_cons_of_mem _ (by rw [e]; exact List.mem_append_right _ hy)), fun y R hR => ?_⟩
    have h1 : D ≤ y.2.2 := hf.1 y (List.mem_cons_of_mem _ (by rw [e, hR]; exact List.mem_append_right _ List.mem_cons_self))
    have h2 : ¬ D < y.2.2 := by
      intro q
      have h3 : C.head? = some y := by rw [hR]; rfl
      have h4 := List.head?_dropWhile_not (fun y => decide (D < y.2.2)) A
      rw [← hC, h3] at h4
      dsimp only at h4
      rw [decide_eq_false_iff_not] at h4
      exact h4 q
    omega
  refine ⟨B.length, C, by rw [e, List.length_append], ?_, fC, ?_, ?_⟩
  · have := hr.2 0 (Nat.succ_pos _)
    have this : some (((A.takeWhile (fun y => decide (x.2.2 < y.2.2))).length : Int)) = some (mi_a h 97 q) := this
    injection this with this
    rw [← this, hx, hB]
  · have e1 : x :: A = [x] ++ (B ++ C) := by rw [e]; rfl
    rw [e1, tpc_app, tpc_app]
    have t1 : tpc D [x] = 1 := by
      unfold tpc
      rw [List.filter_cons, if_pos (by rw [decide_eq_true_eq]; exact hx)]
      rfl
    have t2 : tpc D B = 0 := by
      unfold tpc
      rw [List.filter_eq_nil_iff.mpr (fun y hy => by
        have := hBl y hy
        rw [decide_eq_true_eq]
        omega)]
      rfl
    rw [t1, t2]
    omega
  · have := rh_drop (k := 1 + B.length) hr
    have e2 : (x :: A).drop (1 + B.length) = C := by
      rw [Nat.add_comm, List.drop_succ_cons, e, List.drop_left]
    rw [e2] at this
    exact this
theorem tpc_nn {D : Int} {A : List (Int × Int × Int)} : 0 ≤ tpc D A := by
  unfold tpc
  omega
section CBH
variable {d : Nat} {h : sm_H}
theorem cb5 {zf zm D : Int} (hS : ab_Sh sx_sk h) (of : mi_in zf) (om : mi_in zm) (n1 : mi_f h 12032 ≤ 100) : ∀ (m : Nat) (zn : Int) (k : Nat) (R : List (Int × Int × Int)), zm - zn = m → 0 ≤ zn → rh h k R → fo D R → tpc D R = m → (k : Int) + R.length ≤ mi_f h 12032 → me_E (d + 3) 129 5 [some (.inr (.inr 94)), some (.inl zf), some (.inl zm), some (.inl (k : Int)), some (.inl zn)] [] h (fun w h' => w = some (.inl ((k + R.length : Nat) : Int)) ∧ h' = h) := by
  intro m
  induction m with
  | zero =>
    intro zn k R hm z0 hr hf ht hk
    have ok : mi_in (k : Int) := ⟨by omega, by omega⟩
    have on : mi_in zn := by
      unfold mi_in at om ⊢
      omega
    refine mt_kobB hS of om ok on ?_ (by intros; exfalso; omega) (by intros; exfalso; omega) (by intros; exfalso; omega) (by intros; exfalso; omega)
    intro c h1 g1 g2
    have e := me_nil g2
    subst e
    cases R with
    | nil => exact ⟨rfl, rfl⟩
    | cons x R =>
      exfalso
      obtain ⟨j, C, -, -, -, q, -⟩ := fo_first hf hr
      have := tpc_nn (D := D) (A := C)
      omega
  | succ m ih =>
    intro zn k R hm z0 hr hf ht hk
    have on : mi_in zn := by
      unfold mi_in at om ⊢
      omega
    cases R with
    | nil =>
      have : tpc D [] = 0 := rfl
      omega
    | cons x R =>
      obtain ⟨j, C, q1, q2, q3, q4, q5⟩ := fo_first hf hr
      rw [List.length_cons] at hk
      have ok : mi_in (k : Int) := ⟨by omega, by omega⟩
      refine mt_kobB hS of om ok on (by intros; exfalso; omega) (by intros; exfalso; omega) (by intros; exfalso; omega) (by intros; exfalso; omega) ?_
      intro b c1 c2 c3 c4
      have et : Int.toNat (k : Int) = k := Int.toNat_natCast _
      rw [et, q2]
      unfold mi_in at om
      refine ⟨⟨⟨by omega, by omega⟩, ⟨by omega, by omega⟩, ⟨by omega, by omega⟩, by omega, by omega⟩, fun h1 g1 g2 => ?_⟩
      have e := me_nil g2
      subst e
      have e1 : (k : Int) + (1 + (j : Int)) = ((k + (1 + j) : Nat) : Int) := by omega
      rw [e1]
      refine (ih (zn + 1) (k + (1 + j)) C (by omega) (by omega) q5 q3 (by omega) (by omega)).imp (fun w h' hq => ⟨?_, hq.2⟩)
      rw [hq.1]
      refine congrArg (fun i : Nat => some (Sum.inl (i : Int) : mi_V)) ?_
      rw [List.length_cons]
      omega
/-- the place behind -/
theorem me_behindc {q : Nat} {D zm : Int} {A : List (Int × Int × Int)} (hS : ab_Sh sx_sk h) (hr : rh h q A) (hf : fo D A) (ht : tpc D A = zm) (n1 : mi_f h 12032 ≤ 100) (hk : (q : Int) + A.length ≤ mi_f h 12032) (om : mi_in zm) : me_E (d + 3) 129 0 [some (.inr (.inr 94)), some (.inl (q : Int)), some (.inl zm), none, none] [] h (fun w h' => w = some (.inl ((q + A.length : Nat) : Int)) ∧ h' = h) := by
  have of : mi_in (q : Int) := ⟨by omega, by omega⟩
  refine mt_kobA hS of om ?_
  intro h1 g1 g2
  have e := me_nil g2
  subst e
  have := tpc_nn (D := D) (A := A)
  exact cb5 (D := D) g1 of om n1 zm.toNat 0 q A (by omega) (by decide) hr hf (by omega) hk
end CBH
/-! leaves -/
theorem sh_mod4 {z : Int} (h0 : 0 ≤ z) (h1 : z ≤ 1000000) : (Int32.ofInt z - Int32.ofInt z / Int32.ofInt ((10000 : Int)) * Int32.ofInt ((10000 : Int))).toInt = z % 10000 := by
  have e10 : (Int32.ofInt ((10000 : Int))).toInt = 10000 := rfl
  have ez : (Int32.ofInt z).toInt = z := mi_ti ⟨by omega, by omega⟩
  have ed := sh_divg (w := 10000) h0 h1 (by decide) (by decide)
  have em : (Int32.ofInt z / Int32.ofInt ((10000 : Int)) * Int32.ofInt ((10000 : Int))).toInt = z / 10000 * 10000 := by
    rw [Int32.toInt_mul, ed, e10]
    exact Int.bmod_eq_of_le (by omega) (by omega)
  rw [Int32.toInt_sub, ez, em]
  rw [Int.bmod_eq_of_le (by omega) (by omega)]
  omega
def wr_pw : List (Nat × Nat) := [(7425, 7426), (7552, 7553), (13827, 13828), (13829, 13830), (13831, 13837)]
/-- what the class knows of numbers, literals, tops -/
def vpp_G (Lr : Nat → Int) (g : wk_g) (Y : wk_Y) (h : sm_H) : Prop := (∀ p, 0 ≤ p → p < wk_u Y → (g 119 p.toNat = 1 → mi_a h 69 p.toNat = g 120 p.toNat ∧ 0 ≤ g 120 p.toNat ∧ g 120 p.toNat ≤ 9) ∧ (g 119 p.toNat = 8 → mi_a h 69 p.toNat = g 120 p.toNat ∧ (0 ≤ g 120 p.toNat ∧ g 120 p.toNat < 20) ∧ mi_a h 75 (g 120 p.toNat).toNat = Lr (g 120 p.toNat).toNat ∧ ((0 < Lr (g 120 p.toNat).toNat ∧ lgd 6 (Lr (g 120 p.toNat).toNat)) ∨ (Lr (g 120 p.toNat).toNat < 0 ∧ tx_alc (-(Lr (g 120 p.toNat).toNat)) ∧ wy (-(Lr (g 120 p.toNat).toNat)) = false)))) ∧ tt_G (fun p => mi_a h 92 p.toNat) g Y
theorem vpp_G_fr {Lr : Nat → Int} {g : wk_g} {Y : wk_Y} {h h' : sm_H} {wr : List (Nat × Nat)} (hG : vpp_G Lr g Y h) (hF : ab_Fr wr h h') (hS : ab_Sh sx_sk h) (hw : (ab_in wr 8832 || ab_in wr 9600 || ab_in wr 11776) = false) : vpp_G Lr g Y h' := by
  simp only [Bool.or_eq_false_iff] at hw
  have e92 : (fun p : Int => mi_a h' 92 p.toNat) = fun p : Int => mi_a h 92 p.toNat := funext fun p => me_a (k := 92) hF hS rfl hw.2
  refine ⟨fun p p0 p1 => ?_, by rw [e92]; exact hG.2⟩
  rw [me_a (k := 69) hF hS rfl hw.1.1, me_a (k := 75) hF hS rfl hw.1.2]
  exact hG.1 p p0 p1
/-- values that can be printed -/
def vpp_e (g : wk_g) (e : Int × Int) : Prop := (g 119 e.1.toNat = 1 → 0 ≤ e.2 ∧ e.2 ≤ 9999) ∧ (g 119 e.1.toNat = 2 → 0 < e.2 ∧ lgd 6 e.2)
def vpp_in (h : sm_H) (u : Int) (q : Nat) (o : ox) : Prop := ab_Sh sx_sk h ∧ oC h (some o) ∧ oCw h (some o) ∧ mi_f h 13829 = u ∧ mi_f h 13831 = (q : Int) ∧ 0 ≤ mi_f h 13832
def vq (Lr : Nat → Int) (g : wk_g) (h0 : sm_H) (u : Int) (q : Nat) (L : List (Int × Int)) (x : Option ox) (w : Option mi_V) (h' : sm_H) : Prop := w = none ∧ ab_Sh sx_sk h' ∧ ab_Fr wr_pw h0 h' ∧ mi_f h' 13829 = u ∧ oC h' (ofd Lr g L x) ∧ oCw h' (ofd Lr g L x) ∧ (0 ≤ mi_f h' 13832 ∧ mi_f h' 13832 ≤ mi_f h0 13832 + L.length) ∧ (ofd Lr g L x ≠ none → mi_f h' 13831 = (q : Int))
theorem oCw_fr {h h' : sm_H} {x : Option ox} {wr : List (Nat × Nat)} (hR : oCw h x) (hF : ab_Fr wr h h') (hS : ab_Sh sx_sk h) (hw : ab_in wr 13835 = false) : oCw h' x := fun o ho hn => by
  rw [me_f (c := 13835) hF hS rfl hw]
  exact hR o ho hn
section CLF
variable {Lr : Nat → Int} {g : wk_g} {Y : wk_Y} {d : Nat} {h : sm_H} {u p v : Int} {q : Nat} {o : ox}
/-- what is no token -/
theorem oC_ly {h1 : sm_H} {s : Int} {wr : List (Nat × Nat)} (hS : ab_Sh sx_sk h) (hR : oC h (some o)) (hW : oCw h (some o)) (hF : ab_Fr wr h h1) (hw : (ab_in wr 7425 || ab_in wr 7552 || ab_in wr 13827 || ab_in wr 13835 || ab_in wr 13836) = false) (e4 : mi_f h1 13834 = (oly s o).2.1) (e3 : mi_f h1 13833 = (oly s o).2.2.1) (e2 : mi_f h1 13832 = (oly s o).2.2.2) : oC h1 (some (oly s o)) ∧ oCw h1 (some (oly s o)) := by
  simp only [Bool.or_eq_false_iff] at hw
  obtain ⟨⟨⟨⟨w1, w2⟩, w3⟩, w4⟩, w5⟩ := hw
  obtain ⟨a, b, c1, c2, c3, c4, c5⟩ := oC_len hR
  refine ⟨Or.inr ⟨_, rfl, (me_f (c := 13827) hF hS rfl w3).trans a, (me_f (c := 13836) hF hS rfl w5).trans b, (me_f (c := 7425) hF hS rfl w1).trans c1, fun k hk => by rw [me_a (k := 59) hF hS rfl w2]; exact c2 k hk, e4, e3, e2⟩, fun o' ho hn => ?_⟩
  injection ho with ho
  subst ho
  rw [me_f (c := 13835) hF hS rfl w4]
  exact hW o rfl hn
theorem me_wleaf (hi : vpp_in h u q o) (hu : wk_u Y ≤ 60) (hG : vpp_G Lr g Y h) (e68 : mi_a h 68 p.toNat = g 119 p.toNat) (p0 : 0 ≤ p) (p1 : p < wk_u Y) (h9 : g 119 p.toNat ≠ 9) (h10 : g 119 p.toNat ≠ 10) (hv : vpp_e g (p, v)) (hr : (g 119 p.toNat = 1 ∨ g 119 p.toNat = 2) → q < 100 ∧ mi_a h 96 q = v) (hl : mi_f h 13832 + 1 ≤ 100000) : me_E (d + 4) 136 0 [some (.inr (.inr 108)), some (.inl p), none] [] h (vq Lr g h u (if g 119 p.toNat = 1 ∨ g 119 p.toNat = 2 then q + 1 else q) [(p, v)] (some o)) := by
  obtain ⟨hS, hR, hW, hU, hq, l0⟩ := hi
  have op : mi_in p := ⟨by omega, by omega⟩
  have o69 : mi_in (mi_a h 69 p.toNat) := mi_inT _
  obtain ⟨n1, n8⟩ := hG.1 p p0 p1
  have e1 : ofd Lr g [(p, v)] (some o) = oev Lr (g 119 p.toNat) (g 120 p.toNat) v o := rfl
  obtain ⟨-, -, c1, c2, c3, c4, c5⟩ := oC_len hR
  refine mt_kolA hS op (by intros; exfalso; omega) (by intros; exfalso; omega) ?_
  intro b1 b2
  refine ⟨⟨by omega, by omega⟩, fun h1 g1 g2 => ?_⟩
  have e := me_nil g2
  subst e
  rw [e68]
  -- what is no token
  have ly : ∀ (h2 : sm_H) (wr : List (Nat × Nat)), (g 119 p.toNat ≠ 1 ∧ g 119 p.toNat ≠ 2 ∧ g 119 p.toNat ≠ 8) → ab_Sh sx_sk h2 → ab_Fr wr h1 h2 → ab_Fr wr_pw h1 h2 → ab_in wr 13829 = false → ab_in wr 13831 = false → (ab_in wr 7425 || ab_in wr 7552 || ab_in wr 13827 || ab_in wr 13835 || ab_in wr 13836) = false → mi_f h2 13834 = (oly (g 119 p.toNat) o).2.1 → mi_f h2 13833 = (oly (g 119 p.toNat) o).2.2.1 → mi_f h2 13832 = (oly (g 119 p.toNat) o).2.2.2 → (0 ≤ mi_f h2 13832 ∧ mi_f h2 13832 ≤ mi_f h1 13832 + 1) → vq Lr g h1 u (if g 119 p.toNat = 1 ∨ g 119 p.toNat = 2 then q + 1 else q) [(p, v)] (some o) none h2 := by
    intro h2 wr n s2 F2 F2' w1 w2 w3 x4 x3 x2 x1
    have eo : ofd Lr g [(p, v)] (some o) = some (oly (g 119 p.toNat) o) := by
      rw [e1]
      unfold oev
      rw [if_neg (by omega)]
    obtain ⟨y1, y2⟩ := oC_ly (s := g 119 p.toNat) g1 hR hW F2 w3 x4 x3 x2
    refine ⟨rfl, s2, F2', (me_f (c := 13829) F2 g1 rfl w1).trans hU, by rw [eo]; exact y1, by rw [eo]; exact y2, x1, fun _ => ?_⟩
    rw [if_neg (by omega)]
    exact (me_f (c := 13831) F2 g1 rfl w2).trans hq
  -- a token
  have tk : ∀ (h1' h2 : sm_H) (W : List Int) (qn : Nat), (g 119 p.toNat = 1 ∨ g 119 p.toNat = 2 ∨ g 119 p.toNat = 8) → tkw Lr (g 119 p.toNat) (g 120 p.toNat) v = W → ab_Sh sx_sk h1' → ab_Fr [(13831, 13832)] h1 h1' → mi_f h1' 13831 = (qn : Int) → (if g 119 p.toNat = 1 ∨ g 119 p.toNat = 2 then q + 1 else q) = qn → ab_Sh sx_sk h2 → ab_Fr wr_cs h1' h2 → oC h2 ((some o).bind (otk W)) → oCw h2 ((some o).bind (otk W)) → vq Lr g h1 u (if g 119 p.toNat = 1 ∨ g 119 p.toNat = 2 then q + 1 else q) [(p, v)] (some o) none h2 := by
    intro h1' h2 W qn n ew s1 F1 e31 eq s2 F2 y1 y2
    have eo : ofd Lr g [(p, v)] (some o) = (some o).bind (otk W) := by
      rw [e1]
      unfold oev
      rw [if_pos n, ew]
      rfl
    have el : mi_f h2 13832 = mi_f h1 13832 := (me_f (c := 13832) F2 s1 rfl rfl).trans (me_f (c := 13832) F1 g1 rfl rfl)
    refine ⟨rfl, s2, (F1.wide (fun c hc => ab_swr_ok (by decide) hc)).trans (F2.wide (fun c hc => ab_swr_ok (by decide) hc)), ((me_f (c := 13829) F2 s1 rfl rfl).trans (me_f (c := 13829) F1 g1 rfl rfl)).trans hU, by rw [eo]; exact y1, by rw [eo]; exact y2, ⟨by omega, by rw [el]; show mi_f h1 13832 ≤ mi_f h1 13832 + 1; omega⟩, fun _ => ?_⟩
    rw [eq]
    exact (me_f (c := 13831) F2 s1 rfl rfl).trans e31
  have e31 : ∀ h2, ab_Fr [(13831, 13832)] h1 h2 → oC h2 (some o) ∧ oCw h2 (some o) ∧ mi_f h2 13832 = mi_f h1 13832 := fun h2 F => ⟨oC_fr hR F g1 rfl, oCw_fr hW F g1 rfl, me_f (c := 13832) F g1 rfl rfl⟩
  have os : mi_in (g 119 p.toNat) := by rw [← e68]; exact mi_inT _
  have ol4 : oly (g 119 p.toNat) o = (o.1, if g 119 p.toNat = 4 then 1 else o.2.1, if g 119 p.toNat = 5 then 1 else o.2.2.1, if g 119 p.toNat = 6 then o.2.2.2 + 1 else if g 119 p.toNat = 7 ∧ 0 < o.2.2.2 then o.2.2.2 - 1 else o.2.2.2) := rfl
  refine mt_kolB g1 op o69 os (by intros; exfalso; omega) (by intros; exfalso; omega) ?_ (by intros; exfalso; omega) (by intros; exfalso; omega) ?_ ?_ ?_ ?_ ?_ ?_ ?_ (by intros; exfalso; omega) (by intros; exfalso; omega) ?_ ?_
  · -- a number
    intro a1 a2 a3 a4
    have s1 : g 119 p.toNat = 1 := by omega
    obtain ⟨m1, m2, m3⟩ := n1 s1
    obtain ⟨r1, r2⟩ := hr (Or.inl s1)
    obtain ⟨v0, v1⟩ := hv.1 s1
    dsimp only at v0 v1
    have et : Int.toNat (mi_f h1 13831 + 1 - 1) = q := by omega
    rw [et, r2, m1]
    refine ⟨⟨⟨by omega, by omega⟩, ⟨by omega, by omega⟩, ⟨by omega, by omega⟩, ⟨by omega, by omega⟩, by omega, by omega⟩, fun h2 s2 x1 x2 => ?_⟩
    have em : (Int32.ofInt (v - g 120 p.toNat + ((10000 : Int))) - Int32.ofInt (v - g 120 p.toNat + ((10000 : Int))) / Int32.ofInt ((10000 : Int)) * Int32.ofInt ((10000 : Int))).toInt = (v - g 120 p.toNat + 10000) % 10000 := sh_mod4 (by omega) (by omega)
    rw [em]
    obtain ⟨y1, y2, y3⟩ := e31 h2 x2
    refine ⟨_, me_numc (d := d) s2 (by omega) (by omega) (by omega) (by omega) y1 y2, fun w h3 hw hq3 => ?_⟩
    obtain ⟨rfl, z1, z2, z3, z4⟩ := hq3
    refine mt_kolC z1 op (by rw [← m1]; exact o69) ?_
    intro h4 k1 k2
    have e := me_nil k2
    subst e
    refine tk h2 h4 _ (q + 1) (Or.inl s1) ?_ s2 x2 (by omega) (if_pos (Or.inl s1)) z1 z2 z3 z4
    unfold tkw
    rw [if_neg (by omega), if_neg (by omega)]
  · -- a name
    intro a1 a2 a3 a4
    have s1 : g 119 p.toNat = 2 := by omega
    obtain ⟨r1, r2⟩ := hr (Or.inr s1)
    obtain ⟨v0, v1⟩ := hv.2 s1
    dsimp only at v0 v1
    have et : Int.toNat (mi_f h1 13831 + 1 - 1) = q := by omega
    rw [et, r2]
    refine ⟨⟨⟨by omega, by omega⟩, ⟨by omega, by omega⟩, by omega, by omega⟩, fun h2 s2 x1 x2 => ?_⟩
    obtain ⟨y1, y2, y3⟩ := e31 h2 x2
    refine ⟨_, me_codec (d := d) s2 (Or.inl ⟨v0, v1⟩) (by omega) (by omega) y1 y2, fun w h3 hw hq3 => ?_⟩
    obtain ⟨rfl, z1, z2, z3, z4⟩ := hq3
    rw [if_pos v0] at z3 z4
    refine mt_kolD z1 op o69 ?_
    intro h4 k1 k2
    have e := me_nil k2
    subst e
    refine tk h2 h4 _ (q + 1) (Or.inr (Or.inl s1)) ?_ s2 x2 (by omega) (if_pos (Or.inr s1)) z1 z2 z3 z4
    unfold tkw
    rw [if_neg (by omega), if_pos s1]
  · -- nothing
    intro a1 h2 s2 x1
    have e := me_nil x1
    subst e
    refine ly h2 [] (by omega) s2 ab_Fr.refl ab_Fr.refl rfl rfl rfl ?_ ?_ ?_ (by omega)
    · rw [ol4, if_neg (by omega)]; exact c3
    · rw [ol4]; dsimp only; rw [if_neg (by omega)]; exact c4
    · rw [ol4]; dsimp only; rw [if_neg (by omega), if_neg (by omega)]; exact c5
  · -- a blank
    intro a1 h2 s2 x1 x2
    have l2 : mi_f h2 13832 = mi_f h1 13832 := me_f (c := 13832) x2 g1 rfl rfl
    refine ly h2 _ (by omega) s2 x2 (x2.wide (fun c hc => ab_swr_ok (by decide) hc)) rfl rfl rfl ?_ ?_ ?_ (by omega)
    · rw [ol4, if_pos (by omega)]; exact x1
    · rw [ol4]; dsimp only; rw [if_neg (by omega), me_f (c := 13833) x2 g1 rfl rfl]; exact c4
    · rw [ol4]; dsimp only; rw [if_neg (by omega), if_neg (by omega), l2]; exact c5
  · -- a line
    intro a1 h2 s2 x1 x2
    have l2 : mi_f h2 13832 = mi_f h1 13832 := me_f (c := 13832) x2 g1 rfl rfl
    refine ly h2 _ (by omega) s2 x2 (x2.wide (fun c hc => ab_swr_ok (by decide) hc)) rfl rfl rfl ?_ ?_ ?_ (by omega)
    · rw [ol4, if_neg (by omega), me_f (c := 13834) x2 g1 rfl rfl]; exact c3
    · rw [ol4]; dsimp only; rw [if_pos (by omega)]; exact x1
    · rw [ol4]; dsimp only; rw [if_neg (by omega), if_neg (by omega), l2]; exact c5
  · -- deeper
    intro a0 a1
    refine ⟨⟨by omega, by omega⟩, fun h2 s2 x1 x2 => ?_⟩
    refine ly h2 _ (by omega) s2 x2 (x2.wide (fun c hc => ab_swr_ok (by decide) hc)) rfl rfl rfl ?_ ?_ ?_ (by omega)
    · rw [ol4, if_neg (by omega), me_f (c := 13834) x2 g1 rfl rfl]; exact c3
    · rw [ol4]; dsimp only; rw [if_neg (by omega), me_f (c := 13833) x2 g1 rfl rfl]; exact c4
    · rw [ol4]; dsimp only; rw [if_pos (by omega), x1, c5]
  · -- back, at the edge
    intro a0 a1 a2
    refine ⟨⟨by omega, by omega⟩, fun h2 s2 x1 x2 => ?_⟩
    refine ly h2 _ (by omega) s2 x2 (x2.wide (fun c hc => ab_swr_ok (by decide) hc)) rfl rfl rfl ?_ ?_ ?_ (by omega)
    · rw [ol4, if_neg (by omega), me_f (c := 13834) x2 g1 rfl rfl]; exact c3
    · rw [ol4]; dsimp only; rw [if_neg (by omega), me_f (c := 13833) x2 g1 rfl rfl]; exact c4
    · rw [ol4]; dsimp only; rw [if_neg (by omega), if_neg (by omega), x1]; omega
  · -- back
    intro a0 a1 a2
    refine ⟨⟨by omega, by omega⟩, fun h2 s2 x1 x2 => ?_⟩
    refine ly h2 _ (by omega) s2 x2 (x2.wide (fun c hc => ab_swr_ok (by decide) hc)) rfl rfl rfl ?_ ?_ ?_ (by omega)
    · rw [ol4, if_neg (by omega), me_f (c := 13834) x2 g1 rfl rfl]; exact c3
    · rw [ol4]; dsimp only; rw [if_neg (by omega), me_f (c := 13833) x2 g1 rfl rfl]; exact c4
    · rw [ol4]; dsimp only; rw [if_neg (by omega), if_pos (by omega), x1, c5]
  · -- a literal
    intro a1 a2 a3
    have s1 : g 119 p.toNat = 8 := by omega
    obtain ⟨m1, m2, m3, m4⟩ := n8 s1
    rw [m1, m3]
    refine ⟨⟨by omega, by omega⟩, fun h2 s2 x1 => ?_⟩
    have e := me_nil x1
    subst e
    refine ⟨_, me_codec (d := d) s2 m4 (by omega) (by omega) hR hW, fun w h3 hw hq3 => ?_⟩
    obtain ⟨rfl, z1, z2, z3, z4⟩ := hq3
    refine mt_kolE z1 op (by rw [← m1]; exact o69) ?_
    intro h4 k1 k2
    have e := me_nil k2
    subst e
    refine tk h2 h4 _ q (Or.inr (Or.inr s1)) ?_ s2 ab_Fr.refl hq (if_neg (by omega)) z1 z2 z3 z4
    unfold tkw
    rw [if_pos s1]
  · -- nothing else
    intro a1 h2 s2 x1
    have e := me_nil x1
    subst e
    refine ly h2 [] (by omega) s2 ab_Fr.refl ab_Fr.refl rfl rfl rfl ?_ ?_ ?_ (by omega)
    · rw [ol4, if_neg (by omega)]; exact c3
    · rw [ol4]; dsimp only; rw [if_neg (by omega)]; exact c4
    · rw [ol4]; dsimp only; rw [if_neg (by omega), if_neg (by omega)]; exact c5
end CLF
/-! the class's printing walk follows the replay: a use, a part -/
def vpp_H (f : Int → Int) (it : Int → Prop) (g : wk_g) (Y : wk_Y) (kw : Int → Bool) (Lr : Nat → Int) (h : sm_H) : Prop := cg_G f it g Y kw h ∧ vpp_G Lr g Y h ∧ mi_f h 12032 ≤ 100
/-- the nodes that are to be printed, what they tell -/
def vpp_A (g : wk_g) (h : sm_H) (s s' : gm_S) (q : Nat) (L : List (Int × Int)) (A : List (Int × Int × Int)) : Prop := gm_T s' = gm_T s ++ A ∧ rh h q A ∧ (q : Int) + A.length ≤ mi_f h 12032 ∧ (∀ e ∈ L, vpp_e g e) ∧ mi_f h 13832 + L.length ≤ 100000 ∧ ∀ x ∈ A, x.1 % 10 = 5 → x.2.1 ≤ 161
def vpp_F (f : Int → Int) (it : Int → Prop) (g : wk_g) (Y : wk_Y) (kw : Int → Bool) (Lr : Nat → Int) (V : Int → Int) (D : Nat) (zd : Int) : Prop := ∀ (h : sm_H) (s s' : gm_S) (u F : Int) (q n : Nat) (L : List (Int × Int)) (A : List (Int × Int × Int)) (o : ox), vpp_in h u q o → vpp_H f it g Y kw Lr h → 0 ≤ F → F < wk_f Y → 1 ≤ u → u ≤ 12 → zd ≤ 5 * (u - 1) + wk_d Y F → rn g V n u [(1, F, 0)] s s' L → vpp_A g h s s' q L A → me_E D 120 0 [some (.inr (.inr 108)), some (.inl (f F)), some (.inl zd), none, none, none, none, none, none, none, none] [] h (vq Lr g h u (q + A.length) L (some o))
section VW0
variable {f : Int → Int} {it : Int → Prop} {g : wk_g} {Y : wk_Y} {kw : Int → Bool} {Lr : Nat → Int} {V : Int → Int} {d : Nat}
theorem vpp_F_deep {D D' : Nat} {zd : Int} (h : vpp_F f it g Y kw Lr V D zd) (hd : D ≤ D') : vpp_F f it g Y kw Lr V D' zd := fun h1 s s' u F q n L A o a1 a2 a3 a4 a5 a6 a7 a8 a9 => (h h1 s s' u F q n L A o a1 a2 a3 a4 a5 a6 a7 a8 a9).deep hd
theorem vpp_H_fr {h h' : sm_H} {wr : List (Nat × Nat)} (hH : vpp_H f it g Y kw Lr h) (hF : ab_Fr wr h h') (hS : ab_Sh sx_sk h) (hw : cg_w wr = true) (hw2 : (ab_in wr 8832 || ab_in wr 9600 || ab_in wr 11776) = false) (hw3 : ab_in wr 12032 = false) : vpp_H f it g Y kw Lr h' := ⟨cg_G_fr hH.1 hF hS hw, vpp_G_fr hH.2.1 hF hS hw2, by rw [me_f (c := 12032) hF hS rfl hw3]; exact hH.2.2⟩
theorem vpp_rep {h : sm_H} (hH : vpp_H f it g Y kw Lr h) : ∀ p, 0 ≤ p → p < wk_u Y → 0 ≤ g 122 p.toNat ∧ g 122 p.toNat ≤ 2 := fun p p0 p1 => (hH.1.2.2.1 p p0 p1).2.2.2.2.1
/-- what a form appends -/
theorem vpp_tF {h : sm_H} (hH : vpp_H f it g Y kw Lr h) (N : Nat) : tpq_F g V Y (fun p => mi_a h 92 p.toNat) N := tpq_all hH.1.1 hH.2.1.2 (vpp_rep hH) N
/-- it has stopped -/
def vst (h0 : sm_H) (u : Int) (n : Nat) (h : sm_H) : Prop := ab_Sh sx_sk h ∧ ab_Fr wr_pw h0 h ∧ mi_f h 13829 = u ∧ oC h none ∧ 0 ≤ mi_f h 13832 ∧ mi_f h 13832 ≤ mi_f h0 13832 + n
theorem vq_st {h0 h : sm_H} {u : Int} {q n : Nat} {L : List (Int × Int)} {x : Option ox} (h1 : vst h0 u n h) (h2 : n ≤ L.length) (h3 : ofd Lr g L x = none) : vq Lr g h0 u q L x none h := by
  obtain ⟨a1, a2, a3, a4, a5, a6⟩ := h1
  refine ⟨rfl, a1, a2, a3, by rw [h3]; exact a4, fun o ho => ?_, ⟨a5, by omega⟩, fun q => absurd h3 q⟩
  rw [h3] at ho
  cases ho
theorem stv_vq {h0 h : sm_H} {u : Int} {q : Nat} {L : List (Int × Int)} {x : Option ox} {w : Option mi_V} (h1 : vq Lr g h0 u q L x w h) (h3 : ofd Lr g L x = none) : vst h0 u L.length h := by
  obtain ⟨-, a1, a2, a3, a4, -, ⟨a5, a6⟩, -⟩ := h1
  rw [h3] at a4
  exact ⟨a1, a2, a3, a4, a5, a6⟩
/-- it goes on -/
theorem in_vq {h0 h : sm_H} {u : Int} {q : Nat} {L : List (Int × Int)} {x : Option ox} {w : Option mi_V} {o : ox} (h1 : vq Lr g h0 u q L x w h) (h3 : ofd Lr g L x = some o) : vpp_in h u q o := by
  obtain ⟨-, a1, a2, a3, a4, a5, ⟨a6, -⟩, a7⟩ := h1
  rw [h3] at a4 a5 a7
  exact ⟨a1, a4, a5, a3, a7 (by simp), a6⟩
theorem vq_step {h0 h h' : sm_H} {u : Int} {q : Nat} {L0 L : List (Int × Int)} {x : Option ox} {o : ox} {w : Option mi_V} (h1 : ofd Lr g L0 x = some o) (hF : ab_Fr wr_pw h0 h) (hl : mi_f h 13832 ≤ mi_f h0 13832 + L0.length) (h2 : vq Lr g h u q L (some o) w h') : vq Lr g h0 u q (L0 ++ L) x w h' := by
  obtain ⟨a0, a1, a2, a3, a4, a5, ⟨a6, a7⟩, a8⟩ := h2
  have e : ofd Lr g (L0 ++ L) x = ofd Lr g L (some o) := by rw [ofd_app, h1]
  unfold vq
  rw [e]
  exact ⟨a0, a1, hF.trans a2, a3, a4, a5, ⟨a6, by rw [List.length_append]; omega⟩, a8⟩
theorem in_fr {h h' : sm_H} {u : Int} {q q' : Nat} {o : ox} (hi : vpp_in h u q o) (hF : ab_Fr [(13831, 13832)] h h') (hS' : ab_Sh sx_sk h') (hq : mi_f h' 13831 = (q' : Int)) : vpp_in h' u q' o ∧ mi_f h' 13832 = mi_f h 13832 := by
  obtain ⟨hS, a1, a2, a3, a4, a5⟩ := hi
  have e := me_f (c := 13832) hF hS rfl rfl
  exact ⟨⟨hS', oC_fr a1 hF hS rfl, oCw_fr a2 hF hS rfl, (me_f (c := 13829) hF hS rfl rfl).trans a3, hq, by omega⟩, e⟩
theorem stv_fr {h0 h h' : sm_H} {u : Int} {n : Nat} (hi : vst h0 u n h) (hF : ab_Fr [(13831, 13832)] h h') (hS' : ab_Sh sx_sk h') : vst h0 u n h' := by
  obtain ⟨hS, a1, a2, a3, a4, a5⟩ := hi
  have e := me_f (c := 13832) hF hS rfl rfl
  exact ⟨hS', a1.trans (hF.wide (fun c hc => ab_swr_ok (by decide) hc)), (me_f (c := 13829) hF hS rfl rfl).trans a2, oC_fr a3 hF hS rfl, by omega, by omega⟩
/-- a use -/
theorem me_wuse {h : sm_H} {t s2 : gm_S} {u i zd : Int} {q m : Nat} {o : ox} {L : List (Int × Int)} {B : List (Int × Int × Int)} (hWF : vpp_F f it g Y kw Lr V (d + 7) zd) (hi : vpp_in h u q o) (hH : vpp_H f it g Y kw Lr h) (i0 : 0 ≤ i) (i1 : i < 10) (r0 : 0 ≤ g 114 i.toNat) (r1 : g 114 i.toNat < wk_f Y) (rf : f (g 114 i.toNat) = i) (u0 : 0 ≤ u) (u1 : u < 12) (z0 : -1 ≤ zd) (z1 : zd ≤ 5 * u) (z2 : zd ≤ 1000) (hr : rn g V m (u + 1) [(1, g 114 i.toNat, 0)] (gm_d t) s2 L) (hA : vpp_A g h (gm_d t) s2 (q + 1) L B) : me_E (d + 8) 113 0 [some (.inr (.inr 108)), some (.inl i), some (.inl zd), none] [] h (vq Lr g h u (q + 1 + B.length) L (some o)) := by
  obtain ⟨hS, j1, j2, j3, j4, j5⟩ := id hi
  obtain ⟨x1, x2, x3, x4, x5, x6⟩ := hA
  have oi : mi_in i := ⟨by omega, by omega⟩
  have od : mi_in zd := ⟨by omega, by omega⟩
  have hd0 := (hH.1.1.2.2.2 _ r0 r1).1
  have n1 := hH.2.2
  refine mt_kruA (d := d) hS oi od ?_ (by intros; exfalso; omega)
  intro b c1 h1 g1 g2
  have e := me_nil g2
  subst e
  refine ⟨fun w h' => w = some (.inl (q : Int)) ∧ ab_Sh sx_sk h' ∧ mi_f h' 13831 = ((q + 1 : Nat) : Int) ∧ ab_Fr [(13831, 13832)] h1 h', mt_koen (d := d + 5) g1 ⟨by decide, by decide⟩ oi ?_, fun w h2 hw hq => ?_⟩
  · intro b1
    refine ⟨⟨⟨by omega, by omega⟩, by omega, by omega⟩, fun h2 s1 s2 s3 => ⟨congrArg (fun z : Int => some (Sum.inl z : mi_V)) (by omega), s1, by omega, s3⟩⟩
  obtain ⟨rfl, q1, q2, q3⟩ := hq
  obtain ⟨hi2, hl2⟩ := in_fr hi q3 q1 q2
  refine mt_kruB (d := d) q1 oi od ⟨by omega, by omega⟩ ?_
  intro b1
  have u2 := hi2.2.2.2.1
  refine ⟨⟨by omega, by omega⟩, fun h3 t1 t2 t3 => ?_⟩
  have hi3 : vpp_in h3 (u + 1) (q + 1) o := ⟨t1, oC_fr hi2.2.1 t3 q1 rfl, oCw_fr hi2.2.2.1 t3 q1 rfl, by omega, (me_f (c := 13831) t3 q1 rfl rfl).trans q2, by rw [me_f (c := 13832) t3 q1 rfl rfl]; exact hi2.2.2.2.2.2⟩
  have l3 : mi_f h3 13832 = mi_f h1 13832 := (me_f (c := 13832) t3 q1 rfl rfl).trans hl2
  have n3 : mi_f h3 12032 = mi_f h1 12032 := (me_f (c := 12032) t3 q1 rfl rfl).trans (me_f (c := 12032) q3 g1 rfl rfl)
  have F3 : ab_Fr wr_pw h1 h3 := (q3.wide (fun c hc => ab_swr_ok (by decide) hc)).trans (t3.wide (fun c hc => ab_swr_ok (by decide) hc))
  have hH3 : vpp_H f it g Y kw Lr h3 := vpp_H_fr hH F3 g1 rfl rfl rfl
  have key := hWF h3 (gm_d t) s2 (u + 1) (g 114 i.toNat) (q + 1) m L B o hi3 hH3 r0 r1 (by omega) (by omega) (by omega) hr ⟨x1, rh_fr x2 F3 g1 rfl, by omega, x4, by omega, x6⟩
  rw [rf] at key
  refine ⟨_, key, fun w h4 hw4 hq4 => ?_⟩
  obtain ⟨rfl, v1, v2, v3, v4, v5, ⟨v6, v7⟩, v8⟩ := hq4
  refine mt_kruC (d := d) v1 oi od ⟨by omega, by omega⟩ ?_
  intro b2
  refine ⟨⟨by omega, by omega⟩, fun h5 y1 y2 y3 => ?_⟩
  have l5 : mi_f h5 13832 = mi_f h4 13832 := me_f (c := 13832) y3 v1 rfl rfl
  exact ⟨rfl, y1, (F3.trans v2).trans (y3.wide (fun c hc => ab_swr_ok (by decide) hc)), by omega, oC_fr v4 y3 v1 rfl, oCw_fr v5 y3 v1 rfl, ⟨by omega, by omega⟩, fun q => (me_f (c := 13831) y3 v1 rfl rfl).trans (v8 q)⟩
theorem app_cancel {T A B : List (Int × Int × Int)} {T' : List (Int × Int × Int)} (h1 : T' = T ++ A) (h2 : T' = T ++ B) : A = B := List.append_cancel_left (h1.symm.trans h2)
/-- a part, once -/
theorem me_wpart {h : sm_H} {s s' : gm_S} {u p zd : Int} {q n : Nat} {o : ox} {L : List (Int × Int)} {A : List (Int × Int × Int)} (hWF : vpp_F f it g Y kw Lr V (d + 7) (zd + 1)) (hi : vpp_in h u q o) (hH : vpp_H f it g Y kw Lr h) (p0 : 0 ≤ p) (p1 : p < wk_u Y) (u0 : 1 ≤ u) (u1 : u ≤ 12) (z0 : 0 ≤ zd) (z1 : zd ≤ 5 * (u - 1) + wk_d Y (wk_c Y p)) (hr : sgr g V n u p s s' L) (hA : vpp_A g h s s' q L A) : me_E (d + 9) 132 0 [some (.inr (.inr 108)), some (.inl p), some (.inl zd), none] [] h (vq Lr g h u (q + A.length) L (some o)) := by
  have hS := hi.1
  have hu60 := hH.1.1.1
  obtain ⟨e68, e9, e10, -⟩ := hH.1.2.2.1 p p0 p1
  obtain ⟨⟨-, -, -, w1, w2⟩, -, -, l9, l10, -⟩ := hH.1.1.2.2.1 p p0 p1
  have wd := (hH.1.1.2.2.2 _ w1 w2).2.1
  have op : mi_in p := ⟨by omega, by omega⟩
  have od : mi_in zd := ⟨by omega, by omega⟩
  have o68 : mi_in (mi_a h 68 p.toNat) := mi_inT _
  have n1 := hH.2.2
  obtain ⟨x1, x2, x3, x4, x5, x6⟩ := id hA
  refine mt_krzA (d := d) hS op od (by intros; exfalso; omega) (by intros; exfalso; omega) ?_ ?_ ?_
  · -- a leaf
    intro c1 c2 c3 c4
    refine ⟨⟨by omega, by omega⟩, fun h1 g1 g2 => ?_⟩
    have e := me_nil g2
    subst e
    obtain ⟨y1, y2⟩ := sgr_lf (by omega) (by omega) hr
    subst y1
    have hlen : mi_f h1 13832 + 1 ≤ 100000 := x5
    have hAl : (g 119 p.toNat = 1 ∨ g 119 p.toNat = 2) → A.length = 1 ∧ mi_a h1 96 q = V (gm_len s) := by
      intro c
      have key : ∀ k, gm_c k (V (gm_len s)) s = some s' → A.length = 1 ∧ mi_a h1 96 q = V (gm_len s) := by
        intro k hk
        obtain ⟨-, -, t3, -, -⟩ := gm_c_t hk
        have e := app_cancel x1 t3
        subst e
        exact ⟨rfl, (rh_cons fo_nil x2).1⟩
      rcases y2 with ⟨-, b⟩ | ⟨-, b⟩ | ⟨a, b, -⟩
      · exact key _ b
      · exact key _ b
      · exfalso; omega
    have hA0 : ¬ (g 119 p.toNat = 1 ∨ g 119 p.toNat = 2) → A.length = 0 := by
      intro c
      rcases y2 with ⟨a, b⟩ | ⟨a, b⟩ | ⟨-, -, b⟩
      · exact absurd (Or.inl a) c
      · exact absurd (Or.inr a) c
      · rw [b] at x1
        have e := app_cancel x1 (List.append_nil _).symm
        rw [e]
        rfl
    have eq : (if g 119 p.toNat = 1 ∨ g 119 p.toNat = 2 then q + 1 else q) = q + A.length := by
      by_cases c : g 119 p.toNat = 1 ∨ g 119 p.toNat = 2
      · rw [if_pos c, (hAl c).1]
      · rw [if_neg c, hA0 c]
        rfl
    have key := me_wleaf (d := d + 4) hi hu60 hH.2.1 e68 p0 p1 (by omega) (by omega) (x4 _ List.mem_cons_self) (fun c => ⟨by have := (hAl c).1; omega, (hAl c).2⟩) hlen
    rw [eq] at key
    refine ⟨_, key, fun w h2 hw hq => ?_⟩
    have e := hq.1
    subst e
    refine mt_krzD hq.2.1 op od o68 ?_
    intro h3 r1 r2
    have e := me_nil r2
    subst e
    exact hq
  · -- a group
    intro c1 c2 c3 c4
    rw [e68] at c4
    obtain ⟨y1, y2, y3, y4⟩ := l10 c4
    have hf := cg_ok hH.1 y1 y2
    refine ⟨⟨⟨by omega, by omega⟩, by omega, by omega⟩, fun h1 g1 g2 => ?_⟩
    have e := me_nil g2
    subst e
    rw [e10 c4]
    refine ⟨_, (vpp_F_deep hWF (by omega : d + 7 ≤ d + 8)) h1 s s' u (g 120 p.toNat) q n L A o hi hH y1 y2 u0 u1 (by omega) (sgr_10 c4 hr) hA, fun w h2 hw hq => ?_⟩
    have e := hq.1
    subst e
    refine mt_krzC hq.2.1 op od o68 ?_
    intro h3 r1 r2
    have e := me_nil r2
    subst e
    exact hq
  · -- a use
    intro c1 c2 c3
    rw [e68] at c3
    obtain ⟨y1, y2, y3, y4, y5, y6, y7⟩ := l9 c3
    obtain ⟨w1, w2⟩ := e9 c3
    obtain ⟨k1, t, m, s2, k2, k3, k4, k5⟩ := sgr_9 c3 hr
    obtain ⟨k6, -, B, k7, k8, -⟩ := vpp_tF (V := V) hH (m + 1) m (by omega) _ _ _ _ _ y5 y6 k4
    subst k5
    have e := app_cancel x1 (node_T k2 k7)
    subst e
    obtain ⟨-, -, -, t4, -⟩ := gm_c_t k2
    obtain ⟨-, -, d3, -⟩ := gm_d_e (t := t)
    rw [d3, t4] at k8
    obtain ⟨-, -, m3⟩ := rh_cons k8 x2
    refine ⟨⟨⟨by omega, by omega⟩, by omega, by omega⟩, fun h1 g1 g2 => ?_⟩
    have e := me_nil g2
    subst e
    rw [w1]
    rw [List.length_cons] at x3
    have key := me_wuse (d := d) hWF hi hH y3 y4 y5 y6 w2 (by omega) k1 (by omega) (by omega) (by omega) k4 ⟨k7, m3, by omega, x4, x5, fun x hx => x6 x (List.mem_cons_of_mem _ hx)⟩
    refine ⟨_, key, fun w h2 hw hq => ?_⟩
    have e := hq.1
    subst e
    refine mt_krzB hq.2.1 op od o68 ?_
    intro h3 r1 r2
    have e := me_nil r2
    subst e
    rw [List.length_cons, show q + (B.length + 1) = q + 1 + B.length from by omega]
    exact hq
end VW0
/-! the class's printing walk: a unit -/
section VW1
variable {f : Int → Int} {it : Int → Prop} {g : wk_g} {Y : wk_Y} {kw : Int → Bool} {Lr : Nat → Int} {V : Int → Int} {d : Nat}
theorem vq_refl {h : sm_H} {u : Int} {q : Nat} {o : ox} (hi : vpp_in h u q o) : vq Lr g h u q [] (some o) none h := by
  obtain ⟨a1, a2, a3, a4, a5, a6⟩ := hi
  exact ⟨rfl, a1, ab_Fr.refl, a4, a2, a3, ⟨a6, by show _ ≤ _ + (0 : Int); omega⟩, fun _ => a5⟩
theorem in_run {h : sm_H} {u : Int} {q : Nat} {o : ox} (hi : vpp_in h u q o) : mi_f h 13827 = 0 := (oC_len hi.2.1).1
theorem vpp_A_split {h : sm_H} {s s1 s' : gm_S} {q : Nat} {D : Int} {L1 L2 : List (Int × Int)} {A1 A2 : List (Int × Int × Int)} (fA : fo D A1) (fB : fo D A2) (hA : vpp_A g h s s' q (L1 ++ L2) (A1 ++ A2)) (e1 : gm_T s1 = gm_T s ++ A1) (e2 : gm_T s' = gm_T s1 ++ A2) : vpp_A g h s s1 q L1 A1 ∧ ∀ h', ab_Sh sx_sk h → ab_Fr wr_pw h h' → mi_f h' 13832 ≤ mi_f h 13832 + L1.length → vpp_A g h' s1 s' (q + A1.length) L2 A2 := by
  obtain ⟨x1, x2, x3, x4, x5, x6⟩ := hA
  obtain ⟨r1, r2⟩ := rh_app fA fB x2
  rw [List.length_append] at x3 x5
  refine ⟨⟨e1, r1, by omega, fun e he => x4 e (List.mem_append_left _ he), by omega, fun x hx => x6 x (List.mem_append_left _ hx)⟩, fun h' hS hF hl => ⟨e2, rh_fr r2 hF hS rfl, ?_, fun e he => x4 e (List.mem_append_right _ he), by omega, fun x hx => x6 x (List.mem_append_right _ hx)⟩⟩
  rw [me_f (c := 12032) hF hS rfl rfl]
  omega
theorem wy98 {h : sm_H} {p zd zr zo zm zt : Int} {Q : Option mi_V → sm_H → Prop} (hS : ab_Sh sx_sk h) (op : mi_in p) (od : mi_in zd) (or_ : mi_in zr) (oo : mi_in zo) (om : mi_in zm) (ot : mi_in zt) (hq : Q none h) : me_E (d + 10) 131 98 [some (.inr (.inr 108)), some (.inl p), some (.inl zd), some (.inl zr), some (.inl zo), some (.inl zm), some (.inl zt)] [] h Q := by
  refine mt_kryG hS op od or_ oo om ot ?_
  intro h1 g1 g2
  have e := me_nil g2
  subst e
  exact hq
/-- once it has stopped -/
theorem wy60s {h : sm_H} {p zd zr zo zm zt : Int} {Q : Option mi_V → sm_H → Prop} (hS : ab_Sh sx_sk h) (op : mi_in p) (od : mi_in zd) (or_ : mi_in zr) (oo : mi_in zo) (om : mi_in zm) (ot : mi_in zt) (h1 : mi_f h 13827 = 1) (hq : Q none h) : me_E (d + 10) 131 60 [some (.inr (.inr 108)), some (.inl p), some (.inl zd), some (.inl zr), some (.inl zo), some (.inl zm), some (.inl zt)] [] h Q := by
  refine mt_kryE hS op od or_ oo om ot ?_ (by intros; exfalso; omega) (by intros; exfalso; omega) (by intros; exfalso; omega) (by intros; exfalso; omega) (by intros; exfalso; omega) (by intros; exfalso; omega) (by intros; exfalso; omega)
  intro b c h2 g1 g2
  have e := me_nil g2
  subst e
  exact wy98 hS op od or_ oo om ot hq
theorem me_wunit0 {h : sm_H} {zp zd : Int} (hS : ab_Sh sx_sk h) (h1 : mi_f h 13827 = 1) (op : mi_in zp) (od : mi_in zd) : me_E (d + 10) 131 0 [some (.inr (.inr 108)), some (.inl zp), some (.inl zd), none, none, none, none] [] h (fun w h' => w = none ∧ h' = h) := by
  refine mt_kryA hS op od (by intros; exfalso; omega) ?_ (by intros; exfalso; omega) ?_ (by intros; exfalso; omega) (by intros; exfalso; omega) ?_
  · intro b c1 c2 h2 g1 g2
    exact ⟨rfl, me_nil g2⟩
  · intro b c1 c2 c3 h2 g1 g2
    exact ⟨rfl, me_nil g2⟩
  · intro b c1 c2 c3
    exact ⟨⟨by omega, by omega⟩, fun h2 g1 g2 => ⟨rfl, me_nil g2⟩⟩
/-- the turns of a many -/
theorem wy60 {u p zd v : Int} {zo : Nat} (hWF : vpp_F f it g Y kw Lr V (d + 7) (zd + 1)) (p0 : 0 ≤ p) (p1 : p < wk_u Y) (u0 : 1 ≤ u) (u1 : u ≤ 12) (z0 : 0 ≤ zd) (z1 : zd ≤ 5 * (u - 1) + wk_d Y (wk_c Y p)) (z2 : zd ≤ 1000) (v1 : v ≤ 161) (hzo : zo < 100) : ∀ (N : Nat) (zt : Int) (h : sm_H) (q n : Nat) (sj s2 : gm_S) (L : List (Int × Int)) (B : List (Int × Int × Int)) (o : ox), v - zt ≤ N → 0 ≤ zt → zt ≤ 161 → vpp_in h u q o → vpp_H f it g Y kw Lr h → mi_a h 96 zo = v → rn g V n u [(5, p, v - zt)] sj s2 L → vpp_A g h sj s2 q L B → me_E (d + 10) 131 60 [some (.inr (.inr 108)), some (.inl p), some (.inl zd), some (.inl (5 : Int)), some (.inl (zo : Int)), some (.inl (161 : Int)), some (.inl zt)] [] h (vq Lr g h u (q + B.length) L (some o)) := by
  have od : mi_in zd := ⟨by omega, by omega⟩
  have oo : mi_in (zo : Int) := ⟨by omega, by omega⟩
  have et : Int.toNat (zo : Int) = zo := Int.toNat_natCast _
  intro N
  have done : ∀ (zt : Int) (h : sm_H) (q n : Nat) (sj s2 : gm_S) (L : List (Int × Int)) (B : List (Int × Int × Int)) (o : ox), v - zt ≤ 0 → 0 ≤ zt → zt ≤ 161 → vpp_in h u q o → vpp_H f it g Y kw Lr h → mi_a h 96 zo = v → rn g V n u [(5, p, v - zt)] sj s2 L → vpp_A g h sj s2 q L B → me_E (d + 10) 131 60 [some (.inr (.inr 108)), some (.inl p), some (.inl zd), some (.inl (5 : Int)), some (.inl (zo : Int)), some (.inl (161 : Int)), some (.inl zt)] [] h (vq Lr g h u (q + B.length) L (some o)) := by
    intro zt h q n sj s2 L B o hN t0 t1 hi hH hv hr hA
    have hS := hi.1
    have op : mi_in p := by have := hH.1.1.1; exact ⟨by omega, by omega⟩
    have ot : mi_in zt := ⟨by omega, by omega⟩
    have hs := in_run hi
    rcases rn_5 hr with ⟨c, -⟩ | ⟨-, c, cL⟩
    · exfalso; omega
    have hB : B = [] := app_cancel hA.1 (by rw [c, List.append_nil])
    subst hB
    subst cL
    refine mt_kryE hS op od ⟨by decide, by decide⟩ oo ⟨by decide, by decide⟩ ot (by intros; exfalso; omega) ?_ (by intros; exfalso; omega) (by intros; exfalso; omega) (by intros; exfalso; omega) (by intros; exfalso; omega) ?_ ?_
    · intro b c1 c2 h1 g1 g2
      have e := me_nil g2
      subst e
      exact wy98 hS op od ⟨by decide, by decide⟩ oo ⟨by decide, by decide⟩ ot (vq_refl hi)
    · intro b c1 c2 c3 c4 c5
      refine ⟨⟨by omega, by omega⟩, fun h1 g1 g2 => ?_⟩
      have e := me_nil g2
      subst e
      exact wy98 hS op od ⟨by decide, by decide⟩ oo ⟨by decide, by decide⟩ ot (vq_refl hi)
    · intro b c1 c2 c3 c4 c5
      rw [et, hv] at c5
      exfalso; omega
  induction N with
  | zero =>
    intro zt h q n sj s2 L B o hN
    exact done zt h q n sj s2 L B o (by omega)
  | succ N ih =>
    intro zt h q n sj s2 L B o hN t0 t1 hi hH hv hr hA
    by_cases hc : v - zt ≤ 0
    · exact done zt h q n sj s2 L B o hc t0 t1 hi hH hv hr hA
    have hS := hi.1
    have op : mi_in p := by have := hH.1.1.1; exact ⟨by omega, by omega⟩
    have ot : mi_in zt := ⟨by omega, by omega⟩
    have hs := in_run hi
    rcases rn_5 hr with ⟨-, m1, m2, s1, L1, L2, k1, k2, k3, k4, k5⟩ | ⟨c, -⟩
    · obtain ⟨a1, -, B1, a3, a4, -⟩ := tpq_sg hH.1.1 (vpp_tF (V := V) hH (m1 + 1)) (by omega) p0 p1 k3
      obtain ⟨j, b1, -, B2, b3, b4, -⟩ := tpq_5 hH.1.1 (vpp_tF (V := V) hH m2) p0 p1 (v - zt - 1).toNat _ m2 _ _ _ (by omega) (by omega) k4
      rw [a1] at b4
      have eB : B = B1 ++ B2 := app_cancel hA.1 (by rw [b3, a3, List.append_assoc])
      subst eB
      subst k5
      obtain ⟨hA1, hA2⟩ := vpp_A_split a4 b4 hA a3 b3
      refine mt_kryE hS op od ⟨by decide, by decide⟩ oo ⟨by decide, by decide⟩ ot (by intros; exfalso; omega) (by intros; exfalso; omega) (by intros; exfalso; omega) (by intros; exfalso; omega) (by intros; exfalso; omega) (by intros; exfalso; omega) ?_ ?_
      · intro b c1 c2 c3 c4 c5
        rw [et, hv] at c5
        exfalso; omega
      · intro b c1 c2 c3 c4 c5
        refine ⟨⟨by omega, by omega⟩, fun h1 g1 g2 => ?_⟩
        have e := me_nil g2
        subst e
        refine ⟨_, me_wpart (d := d) hWF hi hH p0 p1 u0 u1 z0 z1 k3 hA1, fun w h2 hw hq => ?_⟩
        have e := hq.1
        subst e
        have s2' := hq.2.1
        have F2 := hq.2.2.1
        have l2 := hq.2.2.2.2.2.2.1.2
        refine mt_kryF s2' op od ⟨by decide, by decide⟩ oo ⟨by decide, by decide⟩ ot ?_
        refine ⟨⟨by omega, by omega⟩, fun h3 r1 r2 => ?_⟩
        have e := me_nil r2
        subst e
        cases ho : ofd Lr g L1 (some o) with
        | none =>
          have st := stv_vq hq ho
          refine wy60s s2' op od ⟨by decide, by decide⟩ oo ⟨by decide, by decide⟩ ⟨by omega, by omega⟩ (oC_no st.2.2.2.1).1 (vq_st st (by rw [List.length_append]; omega) ?_)
          rw [ofd_app, ho]
          exact ofd_none _
        | some o1 =>
          have hi3 := in_vq hq ho
          have k4' : rn g V m2 u [(5, p, v - (zt + 1))] s1 s2 L2 := by
            rw [show v - (zt + 1) = v - zt - 1 by omega]
            exact k4
          have := ih (zt + 1) h3 (q + B1.length) m2 s1 s2 L2 B2 o1 (by omega) (by omega) (by omega) hi3 (vpp_H_fr hH F2 g1 rfl rfl rfl) ((me_a (k := 96) F2 g1 rfl rfl).trans hv) k4' (hA2 h3 g1 F2 l2)
          refine this.imp (fun w h' hq' => ?_)
          rw [List.length_append, ← Nat.add_assoc]
          exact vq_step ho F2 l2 hq'
    · exfalso; omega
theorem me_wunit {h : sm_H} {s s' : gm_S} {u p zd po : Int} {q n : Nat} {o : ox} {L : List (Int × Int)} {A : List (Int × Int × Int)} (hWF : vpp_F f it g Y kw Lr V (d + 7) (zd + 1)) (hi : vpp_in h u q o) (hH : vpp_H f it g Y kw Lr h) (p0 : 0 ≤ p) (p1 : p < wk_u Y) (u0 : 1 ≤ u) (u1 : u ≤ 12) (z0 : 0 ≤ zd) (z1 : zd ≤ 5 * (u - 1) + wk_d Y (wk_c Y p)) (hr : rn g V n u [(0, p, po)] s s' L) (hA : vpp_A g h s s' q L A) : me_E (d + 10) 131 0 [some (.inr (.inr 108)), some (.inl p), some (.inl zd), none, none, none, none] [] h (vq Lr g h u (q + A.length) L (some o)) := by
  have hS := hi.1
  have hu60 := hH.1.1.1
  have n1 := hH.2.2
  obtain ⟨e68, -, -, e72, e122, -⟩ := hH.1.2.2.1 p p0 p1
  obtain ⟨⟨-, -, -, w1, w2⟩, -⟩ := hH.1.1.2.2.1 p p0 p1
  have wd := (hH.1.1.2.2.2 _ w1 w2).2.1
  have op : mi_in p := ⟨by omega, by omega⟩
  have od : mi_in zd := ⟨by omega, by omega⟩
  have o72 : mi_in (mi_a h 72 p.toNat) := mi_inT _
  have hs := in_run hi
  have hq31 := hi.2.2.2.2.1
  obtain ⟨x1, x2, x3, x4, x5, x6⟩ := id hA
  have oT : gm_T (gm_op po s) = gm_T s := gm_op_t
  have oD : gm_D (gm_op po s) = gm_D s := gm_op_e.1
  refine mt_kryA hS op od (by intros; exfalso; omega) (by intros; exfalso; omega) (by intros; exfalso; omega) (by intros; exfalso; omega) ?_ ?_ (by intros; exfalso; omega)
  · intro b c1 c2 c3 c4
    have n0 : ¬ g 122 p.toNat = 0 := fun q => by rw [e72, if_pos q] at c4; exact c4 rfl
    rw [if_neg n0] at e72
    refine ⟨⟨by omega, by omega⟩, fun h1 g1 g2 => ?_⟩
    have e := me_nil g2
    subst e
    refine ⟨fun w h' => w = some (.inl (q : Int)) ∧ ab_Sh sx_sk h' ∧ mi_f h' 13831 = ((q + 1 : Nat) : Int) ∧ ab_Fr [(13831, 13832)] h1 h', mt_koen (d := d + 7) g1 o72 ⟨by decide, by decide⟩ ?_, fun w h2 hw hq => ?_⟩
    · intro b1
      refine ⟨⟨⟨by omega, by omega⟩, by omega, by omega⟩, fun h2 s1 s2 s3 => ⟨congrArg (fun z : Int => some (Sum.inl z : mi_V)) (by omega), s1, by omega, s3⟩⟩
    obtain ⟨rfl, q1, q2, q3⟩ := hq
    obtain ⟨hi2, hl2⟩ := in_fr hi q3 q1 q2
    have F2 : ab_Fr wr_pw h1 h2 := q3.wide (fun c hc => ab_swr_ok (by decide) hc)
    have hH2 : vpp_H f it g Y kw Lr h2 := vpp_H_fr hH F2 g1 rfl rfl rfl
    have n2 : mi_f h2 12032 = mi_f h1 12032 := me_f (c := 12032) F2 g1 rfl rfl
    -- what is said of what is in it, is said of all
    have up : ∀ (h' : sm_H) (w : Option mi_V) (m : Nat), q + A.length = q + 1 + m → vq Lr g h2 u (q + 1 + m) L (some o) w h' → vq Lr g h1 u (q + A.length) L (some o) w h' := by
      intro h' w m em hv
      rw [em]
      exact vq_step (L0 := []) rfl F2 (by rw [hl2]; show _ ≤ _ + (0 : Int); omega) hv
    rw [e72]
    by_cases k1 : g 122 p.toNat = 1
    · -- a many
      have e5 : g 122 p.toNat + 4 = 5 := by omega
      rw [e5]
      obtain ⟨t, m, s2, a1, a2, a3, a4⟩ := rn_u1 k1 hr
      obtain ⟨j, b1, -, B, b3, b4, -⟩ := tpq_5 hH.1.1 (vpp_tF (V := V) hH m) p0 p1 (V (gm_len (gm_op po s))).toNat _ m _ _ _ (by omega) (by omega) a3
      obtain ⟨-, -, -, t4, -⟩ := gm_c_t a1
      obtain ⟨-, -, d3, -⟩ := gm_d_e (t := t)
      rw [d3, t4, oD] at b4
      subst a4
      have eA : A = (5 + 10 * ((gm_T s).length : Int), V (gm_len (gm_op po s)), gm_D s) :: B := app_cancel x1 (by rw [node_T a1 b3, oT, oD])
      subst eA
      obtain ⟨r1, -, r3⟩ := rh_cons b4 x2
      have v161 := x6 _ List.mem_cons_self (show (5 + 10 * ((gm_T s).length : Int)) % 10 = 5 by omega)
      dsimp only at v161
      rw [List.length_cons] at x3
      refine mt_kryD q1 op od ⟨by decide, by decide⟩ ⟨by omega, by omega⟩ (by intros; exfalso; omega) ?_
      intro c5 h5 s1 s2'
      have e := me_nil s2'
      subst e
      have a3' : rn g V m u [(5, p, V (gm_len (gm_op po s)) - 0)] (gm_d t) s2 L := by rw [Int.sub_zero]; exact a3
      have key := wy60 (d := d) (zo := q) hWF p0 p1 u0 u1 z0 z1 (by omega) v161 (by omega) (V (gm_len (gm_op po s))).toNat 0 h5 (q + 1) m (gm_d t) s2 L B o (by omega) (by decide) (by decide) hi2 hH2 ((me_a (k := 96) F2 g1 rfl rfl).trans r1) a3' ⟨b3, rh_fr r3 F2 g1 rfl, by omega, x4, by omega, fun x hx => x6 x (List.mem_cons_of_mem _ hx)⟩
      exact key.imp (fun w h' hv => up h' w B.length (by rw [List.length_cons]; omega) hv)
    · -- a maybe
      have k2 : g 122 p.toNat = 2 := by omega
      have e6 : g 122 p.toNat + 4 = 6 := by omega
      rw [e6]
      obtain ⟨t, a1, a2⟩ := rn_u2 k2 hr
      obtain ⟨-, -, -, t4, -⟩ := gm_c_t a1
      obtain ⟨-, -, d3, -⟩ := gm_d_e (t := t)
      refine mt_kryD q1 op od ⟨by decide, by decide⟩ ⟨by omega, by omega⟩ ?_ (by intros; exfalso; omega)
      intro c5 h5 s1 s2'
      have e := me_nil s2'
      subst e
      have hs5 := in_run hi2
      have et : Int.toNat (q : Int) = q := Int.toNat_natCast _
      rcases a2 with ⟨v0, m, s2, a3, a4, a5⟩ | ⟨v0, a4, a5⟩
      · obtain ⟨b1, -, B, b3, b4, -⟩ := tpq_sg hH.1.1 (vpp_tF (V := V) hH (m + 1)) (by omega) p0 p1 a4
        rw [d3, t4, oD] at b4
        subst a5
        have eA : A = (6 + 10 * ((gm_T s).length : Int), V (gm_len (gm_op po s)), gm_D s) :: B := app_cancel x1 (by rw [node_T a1 b3, oT, oD])
        subst eA
        obtain ⟨r1, -, r3⟩ := rh_cons b4 x2
        have r1' : mi_a h5 96 q = V (gm_len (gm_op po s)) := (me_a (k := 96) F2 g1 rfl rfl).trans r1
        rw [List.length_cons] at x3
        refine mt_kryE q1 op od ⟨by decide, by decide⟩ ⟨by omega, by omega⟩ ⟨by decide, by decide⟩ ⟨by decide, by decide⟩ (by intros; exfalso; omega) (by intros; exfalso; omega) (by intros; exfalso; omega) (by intros; exfalso; omega) (by intros; exfalso; omega) (by intros; exfalso; omega) ?_ ?_
        · intro b y1 y2 y3 y4 y5
          rw [et, r1'] at y5
          exfalso; omega
        · intro b y1 y2 y3 y4 y5
          refine ⟨⟨by omega, by omega⟩, fun h6 l1 l2 => ?_⟩
          have e := me_nil l2
          subst e
          refine ⟨_, me_wpart (d := d) hWF hi2 hH2 p0 p1 u0 u1 z0 z1 a4 ⟨b3, rh_fr r3 F2 g1 rfl, by omega, x4, by omega, fun x hx => x6 x (List.mem_cons_of_mem _ hx)⟩, fun w h7 hw hq => ?_⟩
          have e := hq.1
          subst e
          have s7 := hq.2.1
          have fin := up h7 none B.length (by rw [List.length_cons]; omega) hq
          refine mt_kryF s7 op od ⟨by decide, by decide⟩ ⟨by omega, by omega⟩ ⟨by decide, by decide⟩ ⟨by decide, by decide⟩ ?_
          refine ⟨⟨by decide, by decide⟩, fun h8 k1' k2' => ?_⟩
          have e := me_nil k2'
          subst e
          refine mt_kryE s7 op od ⟨by decide, by decide⟩ ⟨by omega, by omega⟩ ⟨by decide, by decide⟩ ⟨by decide, by decide⟩ ?_ ?_ (by intros; exfalso; omega) (by intros; exfalso; omega) (by intros; exfalso; omega) (by intros; exfalso; omega) (by intros; exfalso; omega) (by intros; exfalso; omega)
          · intro b c h9 n1 n2
            have e := me_nil n2
            subst e
            exact wy98 s7 op od ⟨by decide, by decide⟩ ⟨by omega, by omega⟩ ⟨by decide, by decide⟩ ⟨by decide, by decide⟩ fin
          · intro b c c' h9 n1 n2
            have e := me_nil n2
            subst e
            exact wy98 s7 op od ⟨by decide, by decide⟩ ⟨by omega, by omega⟩ ⟨by decide, by decide⟩ ⟨by decide, by decide⟩ fin
      · subst a4
        subst a5
        have eA : A = [(6 + 10 * ((gm_T s).length : Int), V (gm_len (gm_op po s)), gm_D s)] := app_cancel x1 (by rw [node_T (s2 := gm_d t) (A := []) a1 (List.append_nil _).symm, oT, oD])
        subst eA
        obtain ⟨r1, -, r3⟩ := rh_cons fo_nil x2
        have r1' : mi_a h5 96 q = V (gm_len (gm_op po s)) := (me_a (k := 96) F2 g1 rfl rfl).trans r1
        have x3 : (q : Int) + 1 ≤ mi_f h1 12032 := x3
        have fin := up h5 none 0 rfl (vq_refl hi2)
        refine mt_kryE q1 op od ⟨by decide, by decide⟩ ⟨by omega, by omega⟩ ⟨by decide, by decide⟩ ⟨by decide, by decide⟩ (by intros; exfalso; omega) (by intros; exfalso; omega) (by intros; exfalso; omega) (by intros; exfalso; omega) (by intros; exfalso; omega) (by intros; exfalso; omega) ?_ ?_
        · intro b y1 y2 y3 y4 y5
          refine ⟨⟨by omega, by omega⟩, fun h6 l1 l2 => ?_⟩
          have e := me_nil l2
          subst e
          exact wy98 q1 op od ⟨by decide, by decide⟩ ⟨by omega, by omega⟩ ⟨by decide, by decide⟩ ⟨by decide, by decide⟩ fin
        · intro b y1 y2 y3 y4 y5
          rw [et, r1'] at y5
          exfalso; omega
  · intro b c1 c2 c3 c4
    have n0 : g 122 p.toNat = 0 := by
      by_cases q : g 122 p.toNat = 0
      · exact q
      · rw [e72, if_neg q] at c4
        omega
    refine ⟨⟨by omega, by omega⟩, fun h1 g1 g2 => ?_⟩
    have e := me_nil g2
    subst e
    obtain ⟨m, m1, m2⟩ := rn_u0 (by omega) (by omega) hr
    refine ⟨_, me_wpart (d := d) (s := gm_op po s) hWF hi hH p0 p1 u0 u1 z0 z1 m2 ⟨by rw [oT]; exact x1, x2, x3, x4, x5, x6⟩, fun w h2 hw hq => ?_⟩
    have e := hq.1
    subst e
    refine mt_kryB hq.2.1 op od o72 ?_
    intro h3 r1 r2
    have e := me_nil r2
    subst e
    exact hq
end VW1
/-! the class's printing walk: a form, and so all of it -/
section VW2
variable {f : Int → Int} {it : Int → Prop} {g : wk_g} {Y : wk_Y} {kw : Int → Bool} {Lr : Nat → Int} {V : Int → Int} {d : Nat}
theorem ww226 {h : sm_H} {zf zd zi zw zo zp zn : Int} {q8 q9 qa : Option mi_V} {Q : Option mi_V → sm_H → Prop} (hS : ab_Sh sx_sk h) (of : mi_in zf) (od : mi_in zd) (oi : mi_in zi) (ow : mi_in zw) (oo : mi_in zo) (op : mi_in zp) (on : mi_in zn) (o8 : ∀ v, q8 = some v → mi_ok v) (o9 : ∀ v, q9 = some v → mi_ok v) (oa : ∀ v, qa = some v → mi_ok v) (hq : Q none h) : me_E (d + 11) 120 226 [some (.inr (.inr 108)), some (.inl zf), some (.inl zd), some (.inl zi), some (.inl zw), some (.inl zo), some (.inl zp), some (.inl zn), q8, q9, qa] [] h Q := by
  refine mt_krwL hS of od oi ow oo op on o8 o9 oa ?_ ?_
  · intro c h1 g1 g2
    have e := me_nil g2
    subst e
    exact hq
  · intro c h1 g1 g2
    have e := me_nil g2
    subst e
    exact hq
/-- once it has stopped -/
theorem ww104s {h : sm_H} {zf zd zi zw zo zp zn : Int} {q8 q9 qa : Option mi_V} {Q : Option mi_V → sm_H → Prop} (hS : ab_Sh sx_sk h) (of : mi_in zf) (od : mi_in zd) (oi : mi_in zi) (ow : mi_in zw) (oo : mi_in zo) (op : mi_in zp) (on : mi_in zn) (o8 : ∀ v, q8 = some v → mi_ok v) (o9 : ∀ v, q9 = some v → mi_ok v) (oa : ∀ v, qa = some v → mi_ok v) (h1 : mi_f h 13827 = 1) (hq : Q none h) : me_E (d + 11) 120 104 [some (.inr (.inr 108)), some (.inl zf), some (.inl zd), some (.inl zi), some (.inl zw), some (.inl zo), some (.inl zp), some (.inl zn), q8, q9, qa] [] h Q := by
  refine mt_krwG hS of od oi ow oo op on o8 o9 oa ?_ (by intros; exfalso; omega) (by intros; exfalso; omega) (by intros; exfalso; omega) (by intros; exfalso; omega) (by intros; exfalso; omega) (by intros; exfalso; omega)
  intro b c h2 g1 g2
  have e := me_nil g2
  subst e
  exact ww226 hS of od oi ow oo op on o8 o9 oa hq
theorem ww206s {h : sm_H} {zf zd zi zw zo zp zn zl : Int} {q9 qa : Option mi_V} {Q : Option mi_V → sm_H → Prop} (hS : ab_Sh sx_sk h) (of : mi_in zf) (od : mi_in zd) (oi : mi_in zi) (ow : mi_in zw) (oo : mi_in zo) (op : mi_in zp) (n0 : 0 ≤ zn) (n1 : zn ≤ 60) (ol : mi_in zl) (o9 : ∀ v, q9 = some v → mi_ok v) (oa : ∀ v, qa = some v → mi_ok v) (h1 : mi_f h 13827 = 1) (hq : Q none h) : me_E (d + 11) 120 206 [some (.inr (.inr 108)), some (.inl zf), some (.inl zd), some (.inl zi), some (.inl zw), some (.inl zo), some (.inl zp), some (.inl zn), some (.inl zl), q9, qa] [] h Q := by
  have on : mi_in zn := ⟨by omega, by omega⟩
  have on1 : mi_in (zn + 1) := ⟨by omega, by omega⟩
  have o8 : ∀ v, some (Sum.inl zl : mi_V) = some v → mi_ok v := fun v e => by cases e; exact ol
  refine mt_krwH hS of od oi ow oo op on ol o9 oa ?_ ?_ ?_
  · intro c
    refine ⟨⟨by omega, by omega⟩, fun h2 g1 g2 => ?_⟩
    have e := me_nil g2
    subst e
    exact ww104s hS of od oi ow oo ⟨by decide, by decide⟩ on1 o8 o9 oa h1 hq
  · intro c1 c2
    refine ⟨⟨by omega, by omega⟩, fun h2 g1 g2 => ?_⟩
    have e := me_nil g2
    subst e
    exact ww104s hS of od oi ow oo ⟨by decide, by decide⟩ on1 o8 o9 oa h1 hq
  · intro c1 c2
    refine ⟨⟨⟨by omega, by omega⟩, by omega, by omega⟩, fun h2 g1 g2 => ?_⟩
    have e := me_nil g2
    subst e
    exact ww104s hS of od oi ow oo (mi_inT _) on1 o8 o9 oa h1 hq
theorem op0 {s : gm_S} : gm_op 0 s = s := by unfold gm_op; rw [if_neg (by decide)]
theorem stv_1 {h0 h : sm_H} {u : Int} {n : Nat} (hs : vst h0 u n h) : mi_f h 13827 = 1 := (oC_no hs.2.2.2.1).1
theorem ww104 {u F zd zi zw zo : Int} (hWF : vpp_F f it g Y kw Lr V (d + 7) (zd + 1)) (F0 : 0 ≤ F) (F1 : F < wk_f Y) (u0 : 1 ≤ u) (u1 : u ≤ 12) (z0 : 0 ≤ zd) (z1 : zd ≤ 5 * (u - 1) + wk_d Y F) (oi : mi_in zi) (ow : mi_in zw) (oo : mi_in zo) : ∀ (N : Nat) (zn zp : Int) (q8 q9 qa : Option mi_V) (h : sm_H) (q n : Nat) (sj s2 : gm_S) (L : List (Int × Int)) (A : List (Int × Int × Int)) (o : ox), 60 - zn = N → 0 ≤ zn → (zp = -1 ∨ (zn ≤ zp ∧ zp < wk_u Y ∧ it zp ∧ wk_c Y zp = F)) → (∀ v, q8 = some v → mi_ok v) → (∀ v, q9 = some v → mi_ok v) → (∀ v, qa = some v → mi_ok v) → vpp_in h u q o → vpp_H f it g Y kw Lr h → rn g V n u (wk_it g (N + 1) zp) sj s2 L → vpp_A g h sj s2 q L A → me_E (d + 11) 120 104 [some (.inr (.inr 108)), some (.inl (f F)), some (.inl zd), some (.inl zi), some (.inl zw), some (.inl zo), some (.inl zp), some (.inl zn), q8, q9, qa] [] h (vq Lr g h u (q + A.length) L (some o)) := by
  -- nothing more comes
  have fin : ∀ (zn : Int) (q8 q9 qa : Option mi_V) (h : sm_H) (q n : Nat) (sj s2 : gm_S) (L : List (Int × Int)) (A : List (Int × Int × Int)) (o : ox) (K : Nat), mi_in zn → (∀ v, q8 = some v → mi_ok v) → (∀ v, q9 = some v → mi_ok v) → (∀ v, qa = some v → mi_ok v) → vpp_in h u q o → vpp_H f it g Y kw Lr h → rn g V n u (wk_it g (K + 1) (-1)) sj s2 L → vpp_A g h sj s2 q L A → me_E (d + 11) 120 104 [some (.inr (.inr 108)), some (.inl (f F)), some (.inl zd), some (.inl zi), some (.inl zw), some (.inl zo), some (.inl (-1 : Int)), some (.inl zn), q8, q9, qa] [] h (vq Lr g h u (q + A.length) L (some o)) := by
    intro zn q8 q9 qa h q n sj s2 L A o K on o8 o9 oa hi hH hr hA
    have of := cg_ok hH.1 F0 F1
    have wd := (hH.1.1.2.2.2 F F0 F1).2.1
    have od : mi_in zd := ⟨by omega, by omega⟩
    have hs := in_run hi
    have eit : wk_it g (K + 1) (-1) = [] := by rw [wk_it, if_pos (by decide)]
    rw [eit] at hr
    obtain ⟨k1, k2⟩ := rn_nil hr
    have hB : A = [] := app_cancel hA.1 (by rw [k1, List.append_nil])
    subst hB
    subst k2
    refine mt_krwG hi.1 of od oi ow oo ⟨by decide, by decide⟩ on o8 o9 oa (by intros; exfalso; omega) ?_ (by intros; exfalso; omega) (by intros; exfalso; omega) (by intros; exfalso; omega) (by intros; exfalso; omega) (by intros; exfalso; omega)
    intro b c1 c2 h1 g1 g2
    have e := me_nil g2
    subst e
    exact ww226 g1 of od oi ow oo ⟨by decide, by decide⟩ on o8 o9 oa (vq_refl hi)
  intro N
  induction N with
  | zero =>
    intro zn zp q8 q9 qa h q n sj s2 L A o hN n0 hp o8 o9 oa hi hH hr hA
    have hu60 := hH.1.1.1
    have e : zp = -1 := by
      rcases hp with e | ⟨e1, e2, -⟩
      · exact e
      · omega
    subst e
    exact fin zn q8 q9 qa h q n sj s2 L A o 0 ⟨by omega, by omega⟩ o8 o9 oa hi hH hr hA
  | succ N ih =>
    intro zn zp q8 q9 qa h q n sj s2 L A o hN n0 hp o8 o9 oa hi hH hr hA
    have on : mi_in zn := ⟨by omega, by omega⟩
    rcases hp with e | ⟨p2, p3, pit, pc⟩
    · subst e
      exact fin zn q8 q9 qa h q n sj s2 L A o (N + 1) on o8 o9 oa hi hH hr hA
    have hS := hi.1
    have hu60 := hH.1.1.1
    have n100 := hH.2.2
    have of := cg_ok hH.1 F0 F1
    have wd := (hH.1.1.2.2.2 F F0 F1).2.1
    have od : mi_in zd := ⟨by omega, by omega⟩
    have hs := in_run hi
    have p0 : 0 ≤ zp := by omega
    have op : mi_in zp := ⟨by omega, by omega⟩
    obtain ⟨-, -, -, -, -, hU⟩ := hH.1.2.2.1 zp p0 p3
    obtain ⟨e74, x125, it125, pairs, plain⟩ := hU pit
    obtain ⟨⟨l1, -⟩, lm, ln, -, -, -⟩ := hH.1.1.2.2.1 zp p0 p3
    have nxt : g 125 zp.toNat = -1 ∨ (zn + 1 ≤ g 125 zp.toNat ∧ g 125 zp.toNat < wk_u Y ∧ it (g 125 zp.toNat) ∧ wk_c Y (g 125 zp.toNat) = F) := by
      by_cases c : 0 ≤ g 125 zp.toNat
      · obtain ⟨a1, a2, a3, -⟩ := ln c
        exact Or.inr ⟨by omega, a1, it125 c, a2.trans pc⟩
      · exact Or.inl (by omega)
    have nx0 : g 125 zp.toNat < 0 ∨ g 125 zp.toNat < wk_u Y := by omega
    have tF : ∀ M, tpq_F g V Y (fun p => mi_a h 92 p.toNat) M := fun M => vpp_tF hH M
    refine mt_krwG hS of od oi ow oo op on o8 o9 oa (by intros; exfalso; omega) (by intros; exfalso; omega) (by intros; exfalso; omega) (by intros; exfalso; omega) (by intros; exfalso; omega) ?_ ?_
    · intro b c1 c2 c3 c4 c5 c6
      have nm : ¬ 0 ≤ g 124 zp.toNat := fun q => c6 (e74.mpr q)
      have eit : wk_it g (N + 1 + 1) zp = (0, zp, 0) :: wk_it g (N + 1) (g 125 zp.toNat) := by rw [wk_it, if_neg (by omega), if_neg nm]
      rw [eit] at hr
      obtain ⟨m1, m2, s1, L1, L2, k1, k2, k3, k4, k5⟩ := rn_i0 hr
      obtain ⟨a1, -, A1, a3, a4, -⟩ := tpq_u hH.1.1 hH.2.1.2 (vpp_rep hH) (tF m1) (Nat.le_refl _) p0 p3 k3
      obtain ⟨b1, -, A2, b3, b4, -⟩ := tpq_it hH.1.1 hH.2.1.2 (vpp_rep hH) (tF m2) (N + 1) _ m2 _ _ _ (Nat.le_refl _) nx0 k4
      rw [op0] at a1 a3 a4
      rw [a1] at b4
      have eA : A = A1 ++ A2 := app_cancel hA.1 (by rw [b3, a3, List.append_assoc])
      subst eA
      subst k5
      obtain ⟨hA1, hA2⟩ := vpp_A_split a4 b4 hA a3 b3
      refine ⟨⟨by omega, by omega⟩, fun h1 g1 g2 => ?_⟩
      have e := me_nil g2
      subst e
      refine ⟨_, me_wunit (d := d) hWF hi hH p0 p3 u0 u1 z0 (by rw [pc]; exact z1) k3 hA1, fun w h2 hw hq => ?_⟩
      have e := hq.1
      subst e
      have s2' := hq.2.1
      have F2 := hq.2.2.1
      have lv2 := hq.2.2.2.2.2.2.1.2
      cases ho : ofd Lr g L1 (some o) with
      | none =>
        have st := stv_vq hq ho
        exact ww206s s2' of od oi ow oo op n0 (by omega) op o9 oa (stv_1 st) (vq_st st (by rw [List.length_append]; omega) (by rw [ofd_app, ho]; exact ofd_none _))
      | some o1 =>
        have hi2 := in_vq hq ho
        have a71 : mi_a h2 71 (Int.toNat zp) = g 125 zp.toNat := (me_a (k := 71) F2 hS rfl rfl).trans (plain nm)
        refine mt_krwH s2' of od oi ow oo op on op o9 oa (by intros; exfalso; omega) (by intros; exfalso; omega) ?_
        intro y1 y2
        refine ⟨⟨⟨by omega, by omega⟩, by omega, by omega⟩, fun h3 r1 r2 => ?_⟩
        have e := me_nil r2
        subst e
        rw [a71]
        refine (ih (zn + 1) (g 125 zp.toNat) _ q9 qa h3 (q + A1.length) m2 s1 s2 L2 A2 o1 (by omega) (by omega) nxt (fun v e => by cases e; exact op) o9 oa hi2 (vpp_H_fr hH F2 hS rfl rfl rfl) k4 (hA2 h3 hS F2 lv2)).imp (fun w h' hq' => ?_)
        rw [List.length_append, ← Nat.add_assoc]
        exact vq_step ho F2 lv2 hq'
    · intro b c1 c2 c3 c4 c5 c6
      have hm := e74.mp c6
      obtain ⟨a71, b71⟩ := pairs hm
      obtain ⟨m1, m2, m3, m4⟩ := lm hm
      have om : mi_in (g 124 zp.toNat) := ⟨by omega, by omega⟩
      have eit : wk_it g (N + 1 + 1) zp = (0, zp, 1) :: (3, 0, 0) :: (0, g 124 zp.toNat, 0) :: (4, 0, 0) :: wk_it g (N + 1) (g 125 zp.toNat) := by rw [wk_it, if_neg (by omega), if_pos hm]
      rw [eit] at hr
      obtain ⟨j1, j2, j3, sa, sb, L1, L2, L3, -, -, -, k1, k2, k3, k4⟩ := rn_i1 hr
      obtain ⟨a1, aP, A1, a3, a4, -⟩ := tpq_u hH.1.1 hH.2.1.2 (vpp_rep hH) (tF j1) (Nat.le_refl _) p0 p3 k1
      obtain ⟨b1, bP, A2, b3, b4, bt⟩ := tpq_u hH.1.1 hH.2.1.2 (vpp_rep hH) (tF j2) (Nat.le_refl _) hm m1 k2
      rw [op0] at b1 bP b3 b4 bt
      obtain ⟨e1, -, A3, e3, e4, -⟩ := tpq_it hH.1.1 hH.2.1.2 (vpp_rep hH) (tF j3) (N + 1) _ j3 _ _ _ (Nat.le_refl _) nx0 k3
      obtain ⟨t1, t2, t3⟩ := pair_T aP a3 bP b3
      have oD : gm_D (gm_op 1 sj) = gm_D sj := gm_op_e.1
      have oT : gm_T (gm_op 1 sj) = gm_T sj := gm_op_t
      have mD : gm_D (gm_mid sa) = gm_D sa := by unfold gm_mid; rw [gm_D_mk]
      have mT : gm_T (gm_mid sa) = gm_T sa := gm_mid_T
      rw [oD] at a1 a4
      rw [mD, a1] at b1 b4 bt
      rw [t3, b1] at e4
      rw [oT] at a3
      have eA : A = (A2 ++ A1) ++ A3 := app_cancel hA.1 (by rw [e3, t1, List.append_assoc])
      subst eA
      subst k4
      -- all of the pair, the rest
      have hA' : vpp_A g h sj s2 q ((L1 ++ L2) ++ L3) ((A2 ++ A1) ++ A3) := by rw [List.append_assoc L1]; exact hA
      obtain ⟨hAp, hA3⟩ := vpp_A_split (fo_app b4 a4) e4 hA' t1 e3
      obtain ⟨-, x2, x3, x4, x5, x6⟩ := hAp
      obtain ⟨r2, r1⟩ := rh_app b4 a4 x2
      rw [List.length_append] at x3 x5
      have h31 := hi.2.2.2.2.1
      have o92 : mi_in (mi_a h 92 (Int.toNat (g 124 zp.toNat))) := mi_inT _
      have bt : tpc (gm_D sj) A2 = mi_a h 92 (Int.toNat (g 124 zp.toNat)) := bt
      refine ⟨⟨by omega, by omega⟩, fun h1 g1 g2 => ?_⟩
      have e := me_nil g2
      subst e
      rw [a71]
      have os : mi_in (q : Int) := ⟨by omega, by omega⟩
      -- the pair begins
      refine ⟨fun w h' => w = some (.inl (q : Int)) ∧ ab_Sh sx_sk h' ∧ mi_f h' 13831 = ((q + A2.length : Nat) : Int) ∧ ab_Fr [(13831, 13832)] h1 h', mt_kopb (d := d + 6) g1 om (by intros; exfalso; omega) (by intros; exfalso; omega) ?_, fun w h2 hw hq => ?_⟩
      · intro y1 y2
        refine ⟨⟨by omega, by omega⟩, fun h2 v1 v2 => ?_⟩
        have e := me_nil v2
        subst e
        rw [h31]
        refine ⟨_, me_behindc (d := d + 6) (D := gm_D sj) v1 r2 b4 bt n100 (by omega) o92, fun w h3 hw3 hq3 => ?_⟩
        obtain ⟨rfl, rfl⟩ := hq3
        refine mt_kopB (d := d + 6) v1 om os ⟨by omega, by omega⟩ ?_
        intro h4 w1 w2 w3
        exact ⟨rfl, w1, w2, w3⟩
      obtain ⟨rfl, q1, q2, q3⟩ := hq
      obtain ⟨hi2, hl2⟩ := in_fr hi q3 q1 q2
      have F2 : ab_Fr wr_pw h1 h2 := q3.wide (fun c hc => ab_swr_ok (by decide) hc)
      have n2 : mi_f h2 12032 = mi_f h1 12032 := me_f (c := 12032) F2 hS rfl rfl
      refine mt_krwN q1 of od oi ow oo op on om os o9 oa ?_
      intro h3 v1 v2
      have e := me_nil v2
      subst e
      refine ⟨_, me_wunit (d := d) hWF hi2 (vpp_H_fr hH F2 hS rfl rfl rfl) p0 p3 u0 u1 z0 (by rw [pc]; exact z1) k1 ⟨a3, rh_fr r1 F2 hS rfl, by omega, fun e he => x4 e (List.mem_append_left _ he), by omega, fun x hx => x6 x (List.mem_append_right _ hx)⟩, fun w h4 hw4 hq4 => ?_⟩
      have e := hq4.1
      subst e
      have s4 := hq4.2.1
      have F4 := hq4.2.2.1
      have lv4 := hq4.2.2.2.2.2.2.1
      have om4 : mi_in (mi_f h4 13831) := mi_inT _
      -- the rest of the way, once it has stopped
      have stp : ∀ (h5 : sm_H) (zm : Int), mi_in zm → vst h1 u (L1 ++ L2).length h5 → ofd Lr g (L1 ++ L2) (some o) = none → me_E (d + 11) 120 188 [some (.inr (.inr 108)), some (.inl (f F)), some (.inl zd), some (.inl zi), some (.inl zw), some (.inl zo), some (.inl zp), some (.inl zn), some (.inl (g 124 zp.toNat)), some (.inl (q : Int)), some (.inl zm)] [] h5 (vq Lr g h1 u (q + (A2 ++ A1 ++ A3).length) (L1 ++ (L2 ++ L3)) (some o)) := by
        intro h5 zm ozm st hn
        refine mt_krwJ st.1 of od oi ow oo op on om os ozm ?_
        intro h6 y1 y2 y3
        have st6 := stv_fr st y3 y1
        refine ww206s y1 of od oi ow oo op n0 (by omega) om (fun v e => by cases e; exact os) (fun v e => by cases e; exact ozm) (stv_1 st6) (vq_st st6 (by rw [List.length_append, List.length_append, List.length_append]; omega) ?_)
        rw [← List.append_assoc, ofd_app, hn]
        exact ofd_none _
      refine mt_krwI s4 of od oi ow oo op on om os oa ?_
      intro h5 y1 y2 y3
      have F5 : ab_Fr wr_pw h1 h5 := (F2.trans F4).trans (y3.wide (fun c hc => ab_swr_ok (by decide) hc))
      have l5 : mi_f h5 13832 = mi_f h4 13832 := me_f (c := 13832) y3 s4 rfl rfl
      have n5 : mi_f h5 12032 = mi_f h1 12032 := me_f (c := 12032) F5 hS rfl rfl
      cases ho : ofd Lr g L1 (some o) with
      | none =>
        have st4 := stv_vq hq4 ho
        obtain ⟨z1', z2', z3', z4', z5', z6'⟩ := stv_fr st4 y3 y1
        have st5 : vst h1 u (L1 ++ L2).length h5 := ⟨z1', F5, z3', z4', z5', by rw [List.length_append]; omega⟩
        refine ⟨_, me_wunit0 (d := d) y1 (stv_1 st5) om od, fun w h6 hw6 hq6 => ?_⟩
        obtain ⟨rfl, rfl⟩ := hq6
        exact stp h6 _ om4 st5 (by rw [ofd_app, ho]; exact ofd_none _)
      | some o1 =>
        have hi4 := in_vq hq4 ho
        have c4' := hi4.2.2.2.2.1
        obtain ⟨hi5, -⟩ := in_fr (q' := q) hi4 y3 y1 y2
        refine ⟨_, me_wunit (d := d) hWF hi5 (vpp_H_fr hH F5 hS rfl rfl rfl) hm m1 u0 u1 z0 (by rw [m2, pc]; exact z1) k2 ⟨b3, rh_fr r2 F5 hS rfl, by omega, fun e he => x4 e (List.mem_append_right _ he), by omega, fun x hx => x6 x (List.mem_append_left _ hx)⟩, fun w h6 hw6 hq6 => ?_⟩
        have e := hq6.1
        subst e
        have hq6' : vq Lr g h1 u (q + A2.length) (L1 ++ L2) (some o) none h6 := vq_step ho F5 (by omega) hq6
        have s6 := hq6'.2.1
        have F6 := hq6'.2.2.1
        have lv6 := hq6'.2.2.2.2.2.2.1.2
        cases ho2 : ofd Lr g (L1 ++ L2) (some o) with
        | none => exact stp h6 _ om4 (stv_vq hq6' ho2) ho2
        | some o2 =>
          have hi6 := in_vq hq6' ho2
          rw [c4'] at om4 ⊢
          refine mt_krwJ s6 of od oi ow oo op on om os om4 ?_
          intro h7 w1 w2 w3
          obtain ⟨hi7, hl7⟩ := in_fr (q' := q + A2.length + A1.length) hi6 w3 w1 w2
          have F7 : ab_Fr wr_pw h1 h7 := F6.trans (w3.wide (fun c hc => ab_swr_ok (by decide) hc))
          have c71 : mi_a h7 71 (Int.toNat (g 124 zp.toNat)) = g 125 zp.toNat := (me_a (k := 71) F7 hS rfl rfl).trans b71
          refine mt_krwH w1 of od oi ow oo op on om (fun v e => by cases e; exact os) (fun v e => by cases e; exact om4) (by intros; exfalso; omega) (by intros; exfalso; omega) ?_
          intro y4 y5
          refine ⟨⟨⟨by omega, by omega⟩, by omega, by omega⟩, fun h8 r3 r4 => ?_⟩
          have e := me_nil r4
          subst e
          rw [c71]
          have hA8 := hA3 h8 hS F7 (by omega)
          have eq8 : q + A2.length + A1.length = q + (A2 ++ A1).length := by rw [List.length_append, Nat.add_assoc]
          rw [eq8] at hi7 ⊢
          refine (ih (zn + 1) (g 125 zp.toNat) _ _ _ h8 (q + (A2 ++ A1).length) j3 (gm_tu sb) s2 L3 A3 o2 (by omega) (by omega) nxt (fun v e => by cases e; exact om) (fun v e => by cases e; exact os) (fun v e => by cases e; rw [← eq8]; exact om4) hi7 (vpp_H_fr hH F7 hS rfl rfl rfl) k3 hA8).imp (fun w h' hq' => ?_)
          rw [List.length_append (as := A2 ++ A1), ← Nat.add_assoc, ← List.append_assoc L1]
          exact vq_step ho2 F7 (by omega) hq'
theorem me_wform {zd : Int} (hWF : vpp_F f it g Y kw Lr V (d + 7) (zd + 1)) (z0 : 0 ≤ zd) : vpp_F f it g Y kw Lr V (d + 11) zd := by
  intro h s s' u F q n L A o hi hH F0 F1 u0 u1 hz hr hA
  have hS := hi.1
  have hs := in_run hi
  have of := cg_ok hH.1 F0 F1
  have hF := hH.1.2.1 F F0 F1
  have n100 := hH.2.2
  obtain ⟨⟨f0, f1⟩, f2, f3, f4, f5⟩ := id hF
  obtain ⟨d1, d2, d3, d4, dB, d5⟩ := hH.1.1.2.2.2 F F0 F1
  have od : mi_in zd := ⟨by omega, by omega⟩
  have h31 := hi.2.2.2.2.1
  obtain ⟨x1, x2, x3, x4, x5, x6⟩ := id hA
  -- from where the parts are gone through
  have go79 : ∀ (zi zw zo : Int) (h1 : sm_H) (q1 m : Nat) (sj s2 : gm_S) (A1 : List (Int × Int × Int)), mi_in zi → mi_in zo → 0 ≤ zw → zw < g 130 F.toNat → vpp_in h1 u q1 o → vpp_H f it g Y kw Lr h1 → rn g V m u (wk_it g 61 (g 126 (wk_alt g zw.toNat (g 129 F.toNat)).toNat)) sj s2 L → vpp_A g h1 sj s2 q1 L A1 → me_E (d + 11) 120 79 [some (.inr (.inr 108)), some (.inl (f F)), some (.inl zd), some (.inl zi), some (.inl zw), some (.inl zo), none, none, none, none, none] [] h1 (vq Lr g h1 u (q1 + A1.length) L (some o)) := by
    intro zi zw zo h1 q1 m sj s2 A1 oi oo w0 w1 hi1 hH1 hr1 hA1
    have hS1 := hi1.1
    have ow : mi_in zw := ⟨by omega, by omega⟩
    have hFF := hH1.1.2.1 F F0 F1
    refine mt_krwE hS1 of od oi ow oo ?_
    intro h2 g1 g2
    have e := me_nil g2
    subst e
    refine ⟨_, me_galt (d := d + 9) hS1 hFF w0 w1, fun w h3 hw hq => ?_⟩
    obtain ⟨rfl, rfl⟩ := hq
    obtain ⟨⟨p1, p2⟩, p3, -, -, -, p6, p7⟩ := hFF.2.2.2.2 zw.toNat (by omega)
    obtain ⟨-, -, p8⟩ := d5 zw.toNat (by omega)
    generalize wk_alt g zw.toNat (g 129 F.toNat) = a at hw p1 p2 p3 p6 p7 p8 hr1 ⊢
    refine mt_krwF hS1 of od oi ow oo (hw _ rfl) (by intros; exfalso; omega) (by intros; exfalso; omega) ?_
    intro c1 c2
    refine ⟨⟨by omega, by omega⟩, fun h4 r1 r2 => ?_⟩
    have e := me_nil r2
    subst e
    rw [p3]
    refine ww104 (d := d) hWF F0 F1 u0 u1 z0 hz oi ow oo 60 0 (g 126 a.toNat) none none none h4 q1 m sj s2 L A1 o (by decide) (by decide) ?_ (fun v e => by cases e) (fun v e => by cases e) (fun v e => by cases e) hi1 hH1 hr1 hA1
    by_cases c : 0 ≤ g 126 a.toNat
    · have := p8.resolve_left (by omega)
      exact Or.inr ⟨c, this.1, p7 c, this.2⟩
    · exact Or.inl (by omega)
  refine mt_krwA (d := d + 4) hS of od (by intros; exfalso; omega) (by intros; exfalso; omega) (by intros; exfalso; omega) ?_ ?_ (by intros; exfalso; omega)
  · intro b c1 c2 c3 c4 c5
    rw [f3] at c5
    obtain ⟨m, m1, m2⟩ := rn_f0 (by omega) hr
    refine ⟨⟨by omega, by omega⟩, fun h1 g1 g2 => ?_⟩
    have e := me_nil g2
    subst e
    refine mt_krwC hS of od ⟨by decide, by decide⟩ ⟨by decide, by decide⟩ ?_ (by intros; exfalso; omega) (by intros; exfalso; omega)
    intro c6 h2 r1 r2
    have e := me_nil r2
    subst e
    exact go79 0 0 (-1) h2 q m s s' A ⟨by decide, by decide⟩ ⟨by decide, by decide⟩ (by decide) (by omega) hi hH m2 hA
  · intro b c1 c2 c3 c4 c5
    rw [f3] at c5
    obtain ⟨cv, t, m, s2, k1, k2, k3, k4⟩ := rn_f1 c5 hr
    obtain ⟨-, -, p8⟩ := d5 (V (gm_len s)).toNat (by omega)
    obtain ⟨b1, -, B, b3, b4, -⟩ := tpq_it hH.1.1 hH.2.1.2 (vpp_rep hH) (vpp_tF (V := V) hH m) 61 _ m _ _ _ (Nat.le_refl _) (by omega) k3
    obtain ⟨-, -, -, t4, -⟩ := gm_c_t k1
    obtain ⟨-, -, e3, -⟩ := gm_d_e (t := t)
    rw [e3, t4] at b4
    subst k4
    have eA : A = (4 + 10 * ((gm_T s).length : Int), V (gm_len s), gm_D s) :: B := app_cancel x1 (node_T k1 b3)
    subst eA
    obtain ⟨r1, -, r3⟩ := rh_cons b4 x2
    rw [List.length_cons] at x3
    refine ⟨⟨by omega, by omega⟩, fun h1 g1 g2 => ?_⟩
    have e := me_nil g2
    subst e
    have ov : mi_in (V (gm_len s)) := ⟨by omega, by omega⟩
    refine ⟨fun w h' => w = some (.inl (V (gm_len s))) ∧ h' = h1, mt_koch (d := d + 8) hS of (by intros; exfalso; omega) (by intros; exfalso; omega) ?_, fun w h2 hw hq => ?_⟩
    · intro y1 y2 y3
      refine ⟨⟨by omega, by omega⟩, fun h2 v1 v2 => ?_⟩
      have e := me_nil v2
      subst e
      refine ⟨?_, rfl⟩
      rw [h31, Int.toNat_natCast, r1]
    obtain ⟨rfl, rfl⟩ := hq
    refine mt_krwB hS of od ⟨by decide, by decide⟩ ov ?_
    intro h3 v1 v2
    have e := me_nil v2
    subst e
    refine mt_krwC hS of od ⟨by decide, by decide⟩ ov (by intros; exfalso; omega) (by intros; exfalso; omega) ?_
    intro b2 c6 c7 h4 v3 v4
    have e := me_nil v4
    subst e
    refine ⟨fun w h' => w = some (.inl (q : Int)) ∧ ab_Sh sx_sk h' ∧ mi_f h' 13831 = ((q + 1 : Nat) : Int) ∧ ab_Fr [(13831, 13832)] h4 h', mt_koen (d := d + 8) hS ⟨by decide, by decide⟩ ov ?_, fun w h5 hw5 hq => ?_⟩
    · intro b1
      refine ⟨⟨⟨by omega, by omega⟩, by omega, by omega⟩, fun h2 s1 s2 s3 => ⟨congrArg (fun z : Int => some (Sum.inl z : mi_V)) (by omega), s1, by omega, s3⟩⟩
    obtain ⟨rfl, q1, q2, q3⟩ := hq
    obtain ⟨hi5, hl5⟩ := in_fr hi q3 q1 q2
    have F5 : ab_Fr wr_pw h4 h5 := q3.wide (fun c hc => ab_swr_ok (by decide) hc)
    have n5 : mi_f h5 12032 = mi_f h4 12032 := me_f (c := 12032) F5 hS rfl rfl
    have oo : mi_in (q : Int) := ⟨by omega, by omega⟩
    refine mt_krwD q1 of od ⟨by decide, by decide⟩ ov oo ?_
    intro h6 l1 l2
    have e := me_nil l2
    subst e
    refine (go79 1 (V (gm_len s)) _ h6 (q + 1) m (gm_d t) s2 B ⟨by decide, by decide⟩ oo cv.1 cv.2 hi5 (vpp_H_fr hH F5 hS rfl rfl rfl) k3 ⟨b3, rh_fr r3 F5 hS rfl, by omega, x4, by omega, fun x hx => x6 x (List.mem_cons_of_mem _ hx)⟩).imp (fun w h' hv => ?_)
    rw [List.length_cons, show q + (B.length + 1) = q + 1 + B.length from by omega]
    exact vq_step (L0 := []) rfl F5 (by rw [hl5]; show _ ≤ _ + (0 : Int); omega) hv
/-- all depths -/
theorem vpp_F_all : ∀ k : Nat, k ≤ 60 → vpp_F f it g Y kw Lr V (7 + 4 * k) (60 - (k : Int)) := by
  intro k
  induction k with
  | zero =>
    intro _ h s s' u F q n L A o hi hH F0 F1 u0 u1 hz
    have := (hH.1.1.2.2.2 F F0 F1).2.1
    exfalso; omega
  | succ k ih =>
    intro hk
    have e : (60 : Int) - ((k + 1 : Nat) : Int) + 1 = 60 - (k : Int) := by omega
    have := me_wform (d := 4 * k) (f := f) (it := it) (g := g) (Y := Y) (kw := kw) (Lr := Lr) (V := V) (zd := 60 - ((k + 1 : Nat) : Int)) (by
      rw [e, Nat.add_comm]
      exact ih (by omega)) (by omega)
    have e2 : 7 + 4 * (k + 1) = 4 * k + 11 := by omega
    rw [e2]
    exact this
end VW2
/-! segments of the class: TwoWayGrammar.print, which may throw -/
set_option maxRecDepth 20000 in
theorem mp_kqoA_0 (h : sm_H) (d : Nat) : mj_path [(164, (1, 1, sb_164))] sx_sk h 6 [1] (d + 1, 164, 0, [some (.inr (.inr 51))], [], [], []) = some ((d + 1, 164, 25, [some (.inr (.inr 51))], [.inr (.inr 108)], [], []), [(mi_f h 12032) ≠ ((0 : Int))]) := rfl
theorem mi_tab_kqoA_0 : ∀ e ∈ ([(164, (1, 1, sb_164))] : mi_T), sc_P e.1 = some e.2 := mi_tb mi_P164 (mi_tb_e)
set_option maxRecDepth 20000 in
theorem ms_kqoA_0 {h : sm_H} {d : Nat} {QT : Nat → sm_H → Prop} {Q : Option mi_V → sm_H → Prop} (hS : ab_Sh sx_sk h)  (ho : ((mi_f h 12032) ≠ ((0 : Int)))) (kon : ∀ h1, me_W [] h h1 → ∃ Q1, me_E (d + 0) 103 0 (mi_entry 1 [.inr (.inr 108)]) [] h1 Q1 ∧ ∀ w h2, (∀ x, w = some x → mi_ok x) → Q1 w h2 → mg_E QT (d + 1) 164 28 [some (.inr (.inr 51))] (mi_back w []) h2 Q) : mg_E QT (d + 1) 164 0 [some (.inr (.inr 51))] [] h Q := mg_seg (mp_kqoA_0 h d ) (mi_tab_kqoA_0) hS (mi_okL_c (trivial) (mi_okL_e)) (mi_okS_e) (mi_al (ho) (mi_al_e)) (fun h1 W _ hst => let ⟨_, k1, k2⟩ := kon h1 W; mg_call (M := (1, 1, sb_164)) (M' := (1, 0, sb_103)) rfl rfl rfl rfl (Nat.le_of_ble_eq_true rfl) (Nat.le_of_ble_eq_true rfl) W.1 k1 k2)
set_option maxRecDepth 20000 in
theorem mp_kqoA_1 (h : sm_H) (d : Nat) : mj_path [(164, (1, 1, sb_164))] sx_sk h 4 [0] (d + 1, 164, 0, [some (.inr (.inr 51))], [], [], []) = some ((d + 1, 164, 10, [some (.inr (.inr 51))], [], [], []), [(mi_f h 12032) = ((0 : Int))]) := rfl
theorem mi_tab_kqoA_1 : ∀ e ∈ ([(164, (1, 1, sb_164))] : mi_T), sc_P e.1 = some e.2 := mi_tb mi_P164 (mi_tb_e)
set_option maxRecDepth 20000 in
theorem ms_kqoA_1 {h : sm_H} {d : Nat} {QT : Nat → sm_H → Prop} {Q : Option mi_V → sm_H → Prop} (hS : ab_Sh sx_sk h)  (ho : ((mi_f h 12032) = ((0 : Int)))) (kon : ∀ h1, me_W [] h h1 → mg_E QT (d + 1) 164 10 [some (.inr (.inr 51))] [] h1 Q) : mg_E QT (d + 1) 164 0 [some (.inr (.inr 51))] [] h Q := mg_seg (mp_kqoA_1 h d ) (mi_tab_kqoA_1) hS (mi_okL_c (trivial) (mi_okL_e)) (mi_okS_e) (mi_al (ho) (mi_al_e)) (fun h1 W _ hst => kon h1 W)
set_option maxRecDepth 20000 in
theorem mt_kqoA {h : sm_H} {d : Nat} {QT : Nat → sm_H → Prop} {Q : Option mi_V → sm_H → Prop} (hS : ab_Sh sx_sk h)  (k0 : ((-2147483648) ≤ mi_f h 12032 ∧ mi_f h 12032 ≤ 2147483647) → ((mi_f h 12032) ≠ ((0 : Int))) → (∀ h1, ab_Sh sx_sk h1 → ab_Fr [] h h1 → ∃ Q1, me_E (d + 0) 103 0 (mi_entry 1 [.inr (.inr 108)]) [] h1 Q1 ∧ ∀ w h2, (∀ x, w = some x → mi_ok x) → Q1 w h2 → mg_E QT (d + 1) 164 28 [some (.inr (.inr 51))] (mi_back w []) h2 Q)) (k1 : ((-2147483648) ≤ mi_f h 12032 ∧ mi_f h 12032 ≤ 2147483647) → ((mi_f h 12032) = ((0 : Int))) → (∀ h1, ab_Sh sx_sk h1 → ab_Fr [] h h1 → mg_E QT (d + 1) 164 10 [some (.inr (.inr 51))] [] h1 Q)) : mg_E QT (d + 1) 164 0 [some (.inr (.inr 51))] [] h Q := Or.elim (mi_em .ne ((mi_f h 12032)) (((0 : Int)))) (fun c0 => ms_kqoA_0 hS (c0) (fun h1 W => (k0 (me_fb hS rfl) c0) h1 W.1 (W.2.2.2.2.2 _ rfl))) (fun c0 => ms_kqoA_1 hS (c0) (fun h1 W => (k1 (me_fb hS rfl) c0) h1 W.1 (W.2.2.2.2.2 _ rfl)))
set_option maxRecDepth 20000 in
theorem mp_kqoB_0 (h : sm_H) (d : Nat) : mj_path [(164, (1, 1, sb_164))] sx_sk h 8 [1] (d + 1, 164, 28, [some (.inr (.inr 51))], [], [], []) = some ((d + 1, 164, 57, [some (.inr (.inr 51))], [.inr (.inr 58), .inr (.inr 56)], [], []), [(mi_f h 13836) = ((0 : Int))]) := rfl
theorem mi_tab_kqoB_0 : ∀ e ∈ ([(164, (1, 1, sb_164))] : mi_T), sc_P e.1 = some e.2 := mi_tb mi_P164 (mi_tb_e)
set_option maxRecDepth 20000 in
theorem ms_kqoB_0 {h : sm_H} {d : Nat} {QT : Nat → sm_H → Prop} {Q : Option mi_V → sm_H → Prop} (hS : ab_Sh sx_sk h)  (ho : ((mi_f h 13836) = ((0 : Int)))) (kon : ∀ h1, me_W [] h h1 → ∃ Q1, me_E (d + 0) 89 0 (mi_entry 3 [.inr (.inr 56), .inr (.inr 58)]) [] h1 Q1 ∧ ∀ w h2, (∀ x, w = some x → mi_ok x) → Q1 w h2 → mg_E QT (d + 1) 164 60 [some (.inr (.inr 51))] (mi_back w []) h2 Q) : mg_E QT (d + 1) 164 28 [some (.inr (.inr 51))] [] h Q := mg_seg (mp_kqoB_0 h d ) (mi_tab_kqoB_0) hS (mi_okL_c (trivial) (mi_okL_e)) (mi_okS_e) (mi_al (ho) (mi_al_e)) (fun h1 W _ hst => let ⟨_, k1, k2⟩ := kon h1 W; mg_call (M := (1, 1, sb_164)) (M' := (3, 0, sb_89)) rfl rfl rfl rfl (Nat.le_of_ble_eq_true rfl) (Nat.le_of_ble_eq_true rfl) W.1 k1 k2)
set_option maxRecDepth 20000 in
theorem mp_kqoB_1 (h : sm_H) (d : Nat) : mj_path [(164, (1, 1, sb_164))] sx_sk h 4 [0] (d + 1, 164, 28, [some (.inr (.inr 51))], [], [], []) = some ((d + 1, 164, 38, [some (.inr (.inr 51))], [], [], []), [(mi_f h 13836) ≠ ((0 : Int))]) := rfl
theorem mi_tab_kqoB_1 : ∀ e ∈ ([(164, (1, 1, sb_164))] : mi_T), sc_P e.1 = some e.2 := mi_tb mi_P164 (mi_tb_e)
set_option maxRecDepth 20000 in
theorem ms_kqoB_1 {h : sm_H} {d : Nat} {QT : Nat → sm_H → Prop} {Q : Option mi_V → sm_H → Prop} (hS : ab_Sh sx_sk h)  (ho : ((mi_f h 13836) ≠ ((0 : Int)))) (kon : ∀ h1, me_W [] h h1 → mg_E QT (d + 1) 164 38 [some (.inr (.inr 51))] [] h1 Q) : mg_E QT (d + 1) 164 28 [some (.inr (.inr 51))] [] h Q := mg_seg (mp_kqoB_1 h d ) (mi_tab_kqoB_1) hS (mi_okL_c (trivial) (mi_okL_e)) (mi_okS_e) (mi_al (ho) (mi_al_e)) (fun h1 W _ hst => kon h1 W)
set_option maxRecDepth 20000 in
theorem mt_kqoB {h : sm_H} {d : Nat} {QT : Nat → sm_H → Prop} {Q : Option mi_V → sm_H → Prop} (hS : ab_Sh sx_sk h)  (k0 : (0 ≤ mi_f h 13836 ∧ mi_f h 13836 ≤ 1) → ((mi_f h 13836) = ((0 : Int))) → (∀ h1, ab_Sh sx_sk h1 → ab_Fr [] h h1 → ∃ Q1, me_E (d + 0) 89 0 (mi_entry 3 [.inr (.inr 56), .inr (.inr 58)]) [] h1 Q1 ∧ ∀ w h2, (∀ x, w = some x → mi_ok x) → Q1 w h2 → mg_E QT (d + 1) 164 60 [some (.inr (.inr 51))] (mi_back w []) h2 Q)) (k1 : (0 ≤ mi_f h 13836 ∧ mi_f h 13836 ≤ 1) → ((mi_f h 13836) ≠ ((0 : Int))) → (∀ h1, ab_Sh sx_sk h1 → ab_Fr [] h h1 → mg_E QT (d + 1) 164 38 [some (.inr (.inr 51))] [] h1 Q)) : mg_E QT (d + 1) 164 28 [some (.inr (.inr 51))] [] h Q := Or.elim (mi_em .eq ((mi_f h 13836)) (((0 : Int)))) (fun c0 => ms_kqoB_0 hS (c0) (fun h1 W => (k0 (me_fb hS rfl) c0) h1 W.1 (W.2.2.2.2.2 _ rfl))) (fun c0 => ms_kqoB_1 hS (c0) (fun h1 W => (k1 (me_fb hS rfl) c0) h1 W.1 (W.2.2.2.2.2 _ rfl)))
set_option maxRecDepth 20000 in
theorem mp_kqoC_0 (h : sm_H) (d : Nat) : mj_path [(164, (1, 1, sb_164)), (22, (1, 1, sb_22))] sx_sk h 6 [] (d + 1, 164, 60, [some (.inr (.inr 51))], [], [], []) = some ((d + 1, 164, 67, [some (.inr (.inr 51))], [.inl (mi_f h 7169)], [], []), []) := rfl
theorem mi_tab_kqoC_0 : ∀ e ∈ ([(164, (1, 1, sb_164)), (22, (1, 1, sb_22))] : mi_T), sc_P e.1 = some e.2 := mi_tb mi_P164 (mi_tb mi_P22 (mi_tb_e))
set_option maxRecDepth 20000 in
theorem ms_kqoC_0 {h : sm_H} {d : Nat} {QT : Nat → sm_H → Prop} {Q : Option mi_V → sm_H → Prop} (hS : ab_Sh sx_sk h)  (kon : ∀ h1, me_W [] h h1 → Q (some (.inl (mi_f h 7169))) h1) : mg_E QT (d + 1) 164 60 [some (.inr (.inr 51))] [] h Q := mg_seg (mp_kqoC_0 h d ) (mi_tab_kqoC_0) hS (mi_okL_c (trivial) (mi_okL_e)) (mi_okS_e) (mi_al_e) (fun h1 W _ hst => mg_ret (M := (1, 1, sb_164)) rfl rfl rfl hst (mi_al_e) (kon h1 W))
set_option maxRecDepth 20000 in
theorem mt_kqoC {h : sm_H} {d : Nat} {QT : Nat → sm_H → Prop} {Q : Option mi_V → sm_H → Prop} (hS : ab_Sh sx_sk h)  (k0 : (∀ h1, ab_Sh sx_sk h1 → ab_Fr [] h h1 → Q (some (.inl (mi_f h 7169))) h1)) : mg_E QT (d + 1) 164 60 [some (.inr (.inr 51))] [] h Q := ms_kqoC_0 hS (fun h1 W => (k0) h1 W.1 (W.2.2.2.2.2 _ rfl))
/-! segments of the class: texts taken over -/
set_option maxRecDepth 20000 in
theorem mp_ktoOA_0 (h : sm_H) (d : Nat) : mj_path [(89, (3, 0, sb_89)), (90, (1, 0, sb_90))] sx_sk h 8 [] (d + 3, 89, 0, [some (.inr (.inr 56)), some (.inr (.inr 58)), none], [], [], []) = some ((d + 3, 89, 6, [some (.inr (.inr 56)), some (.inr (.inr 58)), some (.inl ((0 : Int)))], [], [.inl (7169, (0 : Int))], []), [0 ≤ ((0 : Int)) ∧ ((0 : Int)) ≤ 160]) := rfl
theorem mi_tab_ktoOA_0 : ∀ e ∈ ([(89, (3, 0, sb_89)), (90, (1, 0, sb_90))] : mi_T), sc_P e.1 = some e.2 := mi_tb mi_P89 (mi_tb mi_P90 (mi_tb_e))
set_option maxRecDepth 20000 in
theorem ms_ktoOA_0 {h : sm_H} {d : Nat} {Q : Option mi_V → sm_H → Prop} (hS : ab_Sh sx_sk h)  (ho : (0 ≤ ((0 : Int)) ∧ ((0 : Int)) ≤ 160)) (kon : ∀ h1, me_W [.inl (7169, (0 : Int))] h h1 → me_E (d + 3) 89 6 [some (.inr (.inr 56)), some (.inr (.inr 58)), some (.inl ((0 : Int)))] [] h1 Q) : me_E (d + 3) 89 0 [some (.inr (.inr 56)), some (.inr (.inr 58)), none] [] h Q := mf_seg (mp_ktoOA_0 h d ) (mi_tab_ktoOA_0) hS (mi_okL_c (trivial) (mi_okL_c (trivial) (mi_okL_n (mi_okL_e)))) (mi_okS_e) (mi_al (ho) (mi_al_e)) (fun h1 W _ hst => kon h1 W)
set_option maxRecDepth 20000 in
theorem mt_ktoOA {h : sm_H} {d : Nat} {Q : Option mi_V → sm_H → Prop} (hS : ab_Sh sx_sk h)  (k0 : (∀ h1, ab_Sh sx_sk h1 → mi_f h1 7169 = (0 : Int) → ab_Fr [(7169, 7170)] h h1 → me_E (d + 3) 89 6 [some (.inr (.inr 56)), some (.inr (.inr 58)), some (.inl ((0 : Int)))] [] h1 Q)) : me_E (d + 3) 89 0 [some (.inr (.inr 56)), some (.inr (.inr 58)), none] [] h Q := ms_ktoOA_0 hS ((by decide)) (fun h1 W => (k0) h1 W.1 (W.2.1 7169) (W.2.2.2.2.2 _ rfl))
set_option maxRecDepth 20000 in
theorem mp_ktoOB_0 (h : sm_H) (d : Nat) (zk : Int) : mj_path [(89, (3, 0, sb_89)), (22, (1, 1, sb_22))] sx_sk h 7 [1] (d + 3, 89, 6, [some (.inr (.inr 56)), some (.inr (.inr 58)), some (.inl (zk))], [], [], []) = some ((d + 3, 89, 30, [some (.inr (.inr 56)), some (.inr (.inr 58)), some (.inl (zk))], [], [], []), [(mi_f h 7425) ≤ zk]) := rfl
theorem mi_tab_ktoOB_0 : ∀ e ∈ ([(89, (3, 0, sb_89)), (22, (1, 1, sb_22))] : mi_T), sc_P e.1 = some e.2 := mi_tb mi_P89 (mi_tb mi_P22 (mi_tb_e))
set_option maxRecDepth 20000 in
theorem ms_ktoOB_0 {h : sm_H} {d : Nat} {Q : Option mi_V → sm_H → Prop} {zk : Int} (hS : ab_Sh sx_sk h) (ok_zk : mi_in zk) (ho : ((mi_f h 7425) ≤ zk)) (kon : ∀ h1, me_W [] h h1 → Q none h1) : me_E (d + 3) 89 6 [some (.inr (.inr 56)), some (.inr (.inr 58)), some (.inl (zk))] [] h Q := mf_seg (mp_ktoOB_0 h d zk) (mi_tab_ktoOB_0) hS (mi_okL_c (trivial) (mi_okL_c (trivial) (mi_okL_c (ok_zk) (mi_okL_e)))) (mi_okS_e) (mi_al (ho) (mi_al_e)) (fun h1 W _ hst => mf_ret (M := (3, 0, sb_89)) rfl rfl rfl hst (mi_al_e) (kon h1 W))
set_option maxRecDepth 20000 in
theorem mp_ktoOB_1 (h : sm_H) (d : Nat) (zk : Int) : mj_path [(89, (3, 0, sb_89)), (22, (1, 1, sb_22))] sx_sk h 10 [0] (d + 3, 89, 6, [some (.inr (.inr 56)), some (.inr (.inr 58)), some (.inl (zk))], [], [], []) = some ((d + 3, 89, 17, [some (.inr (.inr 56)), some (.inr (.inr 58)), some (.inl (zk))], [.inl (zk), .inr (.inr 58), .inr (.inr 56)], [], []), [zk < (mi_f h 7425)]) := rfl
theorem mi_tab_ktoOB_1 : ∀ e ∈ ([(89, (3, 0, sb_89)), (22, (1, 1, sb_22))] : mi_T), sc_P e.1 = some e.2 := mi_tb mi_P89 (mi_tb mi_P22 (mi_tb_e))
set_option maxRecDepth 20000 in
theorem ms_ktoOB_1 {h : sm_H} {d : Nat} {Q : Option mi_V → sm_H → Prop} {zk : Int} (hS : ab_Sh sx_sk h) (ok_zk : mi_in zk) (ho : (zk < (mi_f h 7425))) (kon : ∀ h1, me_W [] h h1 → ∃ Q1, me_E (d + 2) 20 0 (mi_entry 2 [.inr (.inr 58), .inl (zk)]) [] h1 Q1 ∧ ∀ w h2, (∀ x, w = some x → mi_ok x) → Q1 w h2 → me_E (d + 3) 89 20 [some (.inr (.inr 56)), some (.inr (.inr 58)), some (.inl (zk))] (mi_back w [.inr (.inr 56)]) h2 Q) : me_E (d + 3) 89 6 [some (.inr (.inr 56)), some (.inr (.inr 58)), some (.inl (zk))] [] h Q := mf_seg (mp_ktoOB_1 h d zk) (mi_tab_ktoOB_1) hS (mi_okL_c (trivial) (mi_okL_c (trivial) (mi_okL_c (ok_zk) (mi_okL_e)))) (mi_okS_e) (mi_al (ho) (mi_al_e)) (fun h1 W _ hst => let ⟨_, k1, k2⟩ := kon h1 W; mf_call (M := (3, 0, sb_89)) (M' := (2, 5, sb_20)) rfl rfl rfl rfl (Nat.le_of_ble_eq_true rfl) (Nat.le_of_ble_eq_true rfl) W.1 k1 k2)
set_option maxRecDepth 20000 in
theorem mt_ktoOB {h : sm_H} {d : Nat} {Q : Option mi_V → sm_H → Prop} {zk : Int} (hS : ab_Sh sx_sk h) (ok_zk : mi_in zk) (k0 : (0 ≤ mi_f h 7425 ∧ mi_f h 7425 ≤ 160) → ((mi_f h 7425) ≤ zk) → (∀ h1, ab_Sh sx_sk h1 → ab_Fr [] h h1 → Q none h1)) (k1 : (0 ≤ mi_f h 7425 ∧ mi_f h 7425 ≤ 160) → (zk < (mi_f h 7425)) → (∀ h1, ab_Sh sx_sk h1 → ab_Fr [] h h1 → ∃ Q1, me_E (d + 2) 20 0 (mi_entry 2 [.inr (.inr 58), .inl (zk)]) [] h1 Q1 ∧ ∀ w h2, (∀ x, w = some x → mi_ok x) → Q1 w h2 → me_E (d + 3) 89 20 [some (.inr (.inr 56)), some (.inr (.inr 58)), some (.inl (zk))] (mi_back w [.inr (.inr 56)]) h2 Q)) : me_E (d + 3) 89 6 [some (.inr (.inr 56)), some (.inr (.inr 58)), some (.inl (zk))] [] h Q := Or.elim (mi_em .ge (zk) ((mi_f h 7425))) (fun c0 => ms_ktoOB_0 hS ok_zk (c0) (fun h1 W => (k0 (me_fb hS rfl) c0) h1 W.1 (W.2.2.2.2.2 _ rfl))) (fun c0 => ms_ktoOB_1 hS ok_zk (c0) (fun h1 W => (k1 (me_fb hS rfl) c0) h1 W.1 (W.2.2.2.2.2 _ rfl)))
set_option maxRecDepth 20000 in
theorem mp_ktoOC_0 (h : sm_H) (d : Nat) (zk zc : Int) : mj_path [(89, (3, 0, sb_89))] sx_sk h 0 [] (d + 3, 89, 20, [some (.inr (.inr 56)), some (.inr (.inr 58)), some (.inl (zk))], [.inl (zc), .inr (.inr 56)], [], []) = some ((d + 3, 89, 20, [some (.inr (.inr 56)), some (.inr (.inr 58)), some (.inl (zk))], [.inl (zc), .inr (.inr 56)], [], []), []) := rfl
theorem mi_tab_ktoOC_0 : ∀ e ∈ ([(89, (3, 0, sb_89))] : mi_T), sc_P e.1 = some e.2 := mi_tb mi_P89 (mi_tb_e)
set_option maxRecDepth 20000 in
theorem ms_ktoOC_0 {h : sm_H} {d : Nat} {Q : Option mi_V → sm_H → Prop} {zk zc : Int} (hS : ab_Sh sx_sk h) (ok_zk : mi_in zk) (ok_zc : mi_in zc) (kon : ∀ h1, me_W [] h h1 → ∃ Q1, me_E (d + 2) 91 0 (mi_entry 3 [.inr (.inr 56), .inl (zc)]) [] h1 Q1 ∧ ∀ w h2, (∀ x, w = some x → mi_ok x) → Q1 w h2 → me_E (d + 3) 89 23 [some (.inr (.inr 56)), some (.inr (.inr 58)), some (.inl (zk))] (mi_back w []) h2 Q) : me_E (d + 3) 89 20 [some (.inr (.inr 56)), some (.inr (.inr 58)), some (.inl (zk))] [.inl (zc), .inr (.inr 56)] h Q := mf_seg (mp_ktoOC_0 h d zk zc) (mi_tab_ktoOC_0) hS (mi_okL_c (trivial) (mi_okL_c (trivial) (mi_okL_c (ok_zk) (mi_okL_e)))) (mi_okS_cons (ok_zc) (mi_okS_cons (trivial) (mi_okS_e))) (mi_al_e) (fun h1 W _ hst => let ⟨_, k1, k2⟩ := kon h1 W; mf_call (M := (3, 0, sb_89)) (M' := (3, 4, sb_91)) rfl rfl rfl rfl (Nat.le_of_ble_eq_true rfl) (Nat.le_of_ble_eq_true rfl) W.1 k1 k2)
set_option maxRecDepth 20000 in
theorem mt_ktoOC {h : sm_H} {d : Nat} {Q : Option mi_V → sm_H → Prop} {zk zc : Int} (hS : ab_Sh sx_sk h) (ok_zk : mi_in zk) (ok_zc : mi_in zc) (k0 : (∀ h1, ab_Sh sx_sk h1 → ab_Fr [] h h1 → ∃ Q1, me_E (d + 2) 91 0 (mi_entry 3 [.inr (.inr 56), .inl (zc)]) [] h1 Q1 ∧ ∀ w h2, (∀ x, w = some x → mi_ok x) → Q1 w h2 → me_E (d + 3) 89 23 [some (.inr (.inr 56)), some (.inr (.inr 58)), some (.inl (zk))] (mi_back w []) h2 Q)) : me_E (d + 3) 89 20 [some (.inr (.inr 56)), some (.inr (.inr 58)), some (.inl (zk))] [.inl (zc), .inr (.inr 56)] h Q := ms_ktoOC_0 hS ok_zk ok_zc (fun h1 W => (k0) h1 W.1 (W.2.2.2.2.2 _ rfl))
set_option maxRecDepth 20000 in
theorem mp_ktoOD_0 (h : sm_H) (d : Nat) (zk zz : Int) : mj_path [(89, (3, 0, sb_89))] sx_sk h 3 [] (d + 3, 89, 23, [some (.inr (.inr 56)), some (.inr (.inr 58)), some (.inl (zk))], [.inl (zz)], [], []) = some ((d + 3, 89, 6, [some (.inr (.inr 56)), some (.inr (.inr 58)), some (.inl (zk + 1))], [], [], []), [-2147483648 ≤ zk + 1 ∧ zk + 1 ≤ 2147483647]) := rfl
theorem mi_tab_ktoOD_0 : ∀ e ∈ ([(89, (3, 0, sb_89))] : mi_T), sc_P e.1 = some e.2 := mi_tb mi_P89 (mi_tb_e)
set_option maxRecDepth 20000 in
theorem ms_ktoOD_0 {h : sm_H} {d : Nat} {Q : Option mi_V → sm_H → Prop} {zk zz : Int} (hS : ab_Sh sx_sk h) (ok_zk : mi_in zk) (ok_zz : mi_in zz) (ho : (-2147483648 ≤ zk + 1 ∧ zk + 1 ≤ 2147483647)) (kon : ∀ h1, me_W [] h h1 → me_E (d + 3) 89 6 [some (.inr (.inr 56)), some (.inr (.inr 58)), some (.inl (zk + 1))] [] h1 Q) : me_E (d + 3) 89 23 [some (.inr (.inr 56)), some (.inr (.inr 58)), some (.inl (zk))] [.inl (zz)] h Q := mf_seg (mp_ktoOD_0 h d zk zz) (mi_tab_ktoOD_0) hS (mi_okL_c (trivial) (mi_okL_c (trivial) (mi_okL_c (ok_zk) (mi_okL_e)))) (mi_okS_cons (ok_zz) (mi_okS_e)) (mi_al (ho) (mi_al_e)) (fun h1 W _ hst => kon h1 W)
set_option maxRecDepth 20000 in
theorem mt_ktoOD {h : sm_H} {d : Nat} {Q : Option mi_V → sm_H → Prop} {zk zz : Int} (hS : ab_Sh sx_sk h) (ok_zk : mi_in zk) (ok_zz : mi_in zz) (k0 : ((-2147483648 ≤ zk + 1 ∧ zk + 1 ≤ 2147483647)) ∧ (∀ h1, ab_Sh sx_sk h1 → ab_Fr [] h h1 → me_E (d + 3) 89 6 [some (.inr (.inr 56)), some (.inr (.inr 58)), some (.inl (zk + 1))] [] h1 Q)) : me_E (d + 3) 89 23 [some (.inr (.inr 56)), some (.inr (.inr 58)), some (.inl (zk))] [.inl (zz)] h Q := ms_ktoOD_0 hS ok_zk ok_zz ((k0).1) (fun h1 W => (k0).2 h1 W.1 (W.2.2.2.2.2 _ rfl))
set_option maxRecDepth 20000 in
theorem mp_ktoOE_0 (h : sm_H) (d : Nat) (zk : Int) : mj_path [(20, (2, 5, sb_20))] sx_sk h 3 [1] (d + 2, 20, 0, [some (.inr (.inr 58)), some (.inl (zk))], [], [], []) = some ((d + 2, 20, 32, [some (.inr (.inr 58)), some (.inl (zk))], [.inl ((32 : Int))], [], []), [zk < ((0 : Int))]) := rfl
theorem mi_tab_ktoOE_0 : ∀ e ∈ ([(20, (2, 5, sb_20))] : mi_T), sc_P e.1 = some e.2 := mi_tb mi_P20 (mi_tb_e)
set_option maxRecDepth 20000 in
theorem ms_ktoOE_0 {h : sm_H} {d : Nat} {Q : Option mi_V → sm_H → Prop} {zk : Int} (hS : ab_Sh sx_sk h) (ok_zk : mi_in zk) (ho : (zk < ((0 : Int))) ∧ (0 ≤ ((32 : Int)) ∧ ((32 : Int)) ≤ 65535)) (kon : ∀ h1, me_W [] h h1 → Q (some (.inl ((32 : Int)))) h1) : me_E (d + 2) 20 0 [some (.inr (.inr 58)), some (.inl (zk))] [] h Q := mf_seg (mp_ktoOE_0 h d zk) (mi_tab_ktoOE_0) hS (mi_okL_c (trivial) (mi_okL_c (ok_zk) (mi_okL_e))) (mi_okS_e) (mi_al (ho.1) (mi_al_e)) (fun h1 W _ hst => mf_ret (M := (2, 5, sb_20)) rfl rfl rfl hst (mi_al (ho.2) mi_al_e) (kon h1 W))
set_option maxRecDepth 20000 in
theorem mp_ktoOE_1 (h : sm_H) (d : Nat) (zk : Int) : mj_path [(20, (2, 5, sb_20))] sx_sk h 7 [0, 1] (d + 2, 20, 0, [some (.inr (.inr 58)), some (.inl (zk))], [], [], []) = some ((d + 2, 20, 32, [some (.inr (.inr 58)), some (.inl (zk))], [.inl ((32 : Int))], [], []), [((0 : Int)) ≤ zk, (mi_f h 7425) ≤ zk]) := rfl
theorem mi_tab_ktoOE_1 : ∀ e ∈ ([(20, (2, 5, sb_20))] : mi_T), sc_P e.1 = some e.2 := mi_tb mi_P20 (mi_tb_e)
set_option maxRecDepth 20000 in
theorem ms_ktoOE_1 {h : sm_H} {d : Nat} {Q : Option mi_V → sm_H → Prop} {zk : Int} (hS : ab_Sh sx_sk h) (ok_zk : mi_in zk) (ho : (((0 : Int)) ≤ zk) ∧ ((mi_f h 7425) ≤ zk) ∧ (0 ≤ ((32 : Int)) ∧ ((32 : Int)) ≤ 65535)) (kon : ∀ h1, me_W [] h h1 → Q (some (.inl ((32 : Int)))) h1) : me_E (d + 2) 20 0 [some (.inr (.inr 58)), some (.inl (zk))] [] h Q := mf_seg (mp_ktoOE_1 h d zk) (mi_tab_ktoOE_1) hS (mi_okL_c (trivial) (mi_okL_c (ok_zk) (mi_okL_e))) (mi_okS_e) (mi_al (ho.1) (mi_al (ho.2.1) (mi_al_e))) (fun h1 W _ hst => mf_ret (M := (2, 5, sb_20)) rfl rfl rfl hst (mi_al (ho.2.2) mi_al_e) (kon h1 W))
set_option maxRecDepth 20000 in
theorem mp_ktoOE_2 (h : sm_H) (d : Nat) (zk : Int) : mj_path [(20, (2, 5, sb_20))] sx_sk h 12 [0, 0, 1] (d + 2, 20, 0, [some (.inr (.inr 58)), some (.inl (zk))], [], [], []) = some ((d + 2, 20, 32, [some (.inr (.inr 58)), some (.inl (zk))], [.inl ((32 : Int))], [], []), [((0 : Int)) ≤ zk, zk < (mi_f h 7425), ((160 : Int)) ≤ zk]) := rfl
theorem mi_tab_ktoOE_2 : ∀ e ∈ ([(20, (2, 5, sb_20))] : mi_T), sc_P e.1 = some e.2 := mi_tb mi_P20 (mi_tb_e)
set_option maxRecDepth 20000 in
theorem ms_ktoOE_2 {h : sm_H} {d : Nat} {Q : Option mi_V → sm_H → Prop} {zk : Int} (hS : ab_Sh sx_sk h) (ok_zk : mi_in zk) (ho : (((0 : Int)) ≤ zk) ∧ (zk < (mi_f h 7425)) ∧ (((160 : Int)) ≤ zk) ∧ (0 ≤ ((32 : Int)) ∧ ((32 : Int)) ≤ 65535)) (kon : ∀ h1, me_W [] h h1 → Q (some (.inl ((32 : Int)))) h1) : me_E (d + 2) 20 0 [some (.inr (.inr 58)), some (.inl (zk))] [] h Q := mf_seg (mp_ktoOE_2 h d zk) (mi_tab_ktoOE_2) hS (mi_okL_c (trivial) (mi_okL_c (ok_zk) (mi_okL_e))) (mi_okS_e) (mi_al (ho.1) (mi_al (ho.2.1) (mi_al (ho.2.2.1) (mi_al_e)))) (fun h1 W _ hst => mf_ret (M := (2, 5, sb_20)) rfl rfl rfl hst (mi_al (ho.2.2.2) mi_al_e) (kon h1 W))
set_option maxRecDepth 20000 in
theorem mp_ktoOE_3 (h : sm_H) (d : Nat) (zk : Int) : mj_path [(20, (2, 5, sb_20))] sx_sk h 16 [0, 0, 0] (d + 2, 20, 0, [some (.inr (.inr 58)), some (.inl (zk))], [], [], []) = some ((d + 2, 20, 32, [some (.inr (.inr 58)), some (.inl (zk))], [.inl (mi_a h 59 (Int.toNat zk))], [], []), [((0 : Int)) ≤ zk, zk < (mi_f h 7425), zk < ((160 : Int)), 0 ≤ zk ∧ zk < 160]) := rfl
theorem mi_tab_ktoOE_3 : ∀ e ∈ ([(20, (2, 5, sb_20))] : mi_T), sc_P e.1 = some e.2 := mi_tb mi_P20 (mi_tb_e)
set_option maxRecDepth 20000 in
theorem ms_ktoOE_3 {h : sm_H} {d : Nat} {Q : Option mi_V → sm_H → Prop} {zk : Int} (hS : ab_Sh sx_sk h) (ok_zk : mi_in zk) (ho : (((0 : Int)) ≤ zk) ∧ (zk < (mi_f h 7425)) ∧ (zk < ((160 : Int))) ∧ (0 ≤ zk ∧ zk < 160) ∧ (0 ≤ (mi_a h 59 (Int.toNat zk)) ∧ (mi_a h 59 (Int.toNat zk)) ≤ 65535)) (kon : ∀ h1, me_W [] h h1 → Q (some (.inl (mi_a h 59 (Int.toNat zk)))) h1) : me_E (d + 2) 20 0 [some (.inr (.inr 58)), some (.inl (zk))] [] h Q := mf_seg (mp_ktoOE_3 h d zk) (mi_tab_ktoOE_3) hS (mi_okL_c (trivial) (mi_okL_c (ok_zk) (mi_okL_e))) (mi_okS_e) (mi_al (ho.1) (mi_al (ho.2.1) (mi_al (ho.2.2.1) (mi_al (ho.2.2.2.1) (mi_al_e))))) (fun h1 W _ hst => mf_ret (M := (2, 5, sb_20)) rfl rfl rfl hst (mi_al (ho.2.2.2.2) mi_al_e) (kon h1 W))
set_option maxRecDepth 20000 in
theorem mt_ktoOE {h : sm_H} {d : Nat} {Q : Option mi_V → sm_H → Prop} {zk : Int} (hS : ab_Sh sx_sk h) (ok_zk : mi_in zk) (k0 : (zk < ((0 : Int))) → (∀ h1, ab_Sh sx_sk h1 → ab_Fr [] h h1 → Q (some (.inl ((32 : Int)))) h1)) (k1 : (0 ≤ mi_f h 7425 ∧ mi_f h 7425 ≤ 160) → (((0 : Int)) ≤ zk) → ((mi_f h 7425) ≤ zk) → (∀ h1, ab_Sh sx_sk h1 → ab_Fr [] h h1 → Q (some (.inl ((32 : Int)))) h1)) (k2 : (0 ≤ mi_f h 7425 ∧ mi_f h 7425 ≤ 160) → (((0 : Int)) ≤ zk) → (zk < (mi_f h 7425)) → (((160 : Int)) ≤ zk) → (∀ h1, ab_Sh sx_sk h1 → ab_Fr [] h h1 → Q (some (.inl ((32 : Int)))) h1)) (k3 : (0 ≤ mi_f h 7425 ∧ mi_f h 7425 ≤ 160) → (((0 : Int)) ≤ zk) → (zk < (mi_f h 7425)) → (zk < ((160 : Int))) → ((0 ≤ zk ∧ zk < 160) ∧ (0 ≤ (mi_a h 59 (Int.toNat zk)) ∧ (mi_a h 59 (Int.toNat zk)) ≤ 65535)) ∧ (∀ h1, ab_Sh sx_sk h1 → ab_Fr [] h h1 → Q (some (.inl (mi_a h 59 (Int.toNat zk)))) h1)) : me_E (d + 2) 20 0 [some (.inr (.inr 58)), some (.inl (zk))] [] h Q := Or.elim (mi_em .lt (zk) (((0 : Int)))) (fun c0 => ms_ktoOE_0 hS ok_zk ⟨c0, (by decide)⟩ (fun h1 W => (k0 c0) h1 W.1 (W.2.2.2.2.2 _ rfl))) (fun c0 => Or.elim (mi_em .ge (zk) ((mi_f h 7425))) (fun c1 => ms_ktoOE_1 hS ok_zk ⟨c0, c1, (by decide)⟩ (fun h1 W => (k1 (me_fb hS rfl) c0 c1) h1 W.1 (W.2.2.2.2.2 _ rfl))) (fun c1 => Or.elim (mi_em .ge (zk) (((160 : Int)))) (fun c2 => ms_ktoOE_2 hS ok_zk ⟨c0, c1, c2, (by decide)⟩ (fun h1 W => (k2 (me_fb hS rfl) c0 c1 c2) h1 W.1 (W.2.2.2.2.2 _ rfl))) (fun c2 => ms_ktoOE_3 hS ok_zk ⟨c0, c1, c2, (k3 (me_fb hS rfl) c0 c1 c2).1.1, (k3 (me_fb hS rfl) c0 c1 c2).1.2⟩ (fun h1 W => (k3 (me_fb hS rfl) c0 c1 c2).2 h1 W.1 (W.2.2.2.2.2 _ rfl)))))
set_option maxRecDepth 20000 in
theorem mp_ktoIA_0 (h : sm_H) (d : Nat) : mj_path [(89, (3, 0, sb_89)), (90, (1, 0, sb_90))] sx_sk h 8 [] (d + 3, 89, 0, [some (.inr (.inr 54)), some (.inr (.inr 56)), none], [], [], []) = some ((d + 3, 89, 6, [some (.inr (.inr 54)), some (.inr (.inr 56)), some (.inl ((0 : Int)))], [], [.inl (6913, (0 : Int))], []), [0 ≤ ((0 : Int)) ∧ ((0 : Int)) ≤ 160]) := rfl
theorem mi_tab_ktoIA_0 : ∀ e ∈ ([(89, (3, 0, sb_89)), (90, (1, 0, sb_90))] : mi_T), sc_P e.1 = some e.2 := mi_tb mi_P89 (mi_tb mi_P90 (mi_tb_e))
set_option maxRecDepth 20000 in
theorem ms_ktoIA_0 {h : sm_H} {d : Nat} {Q : Option mi_V → sm_H → Prop} (hS : ab_Sh sx_sk h)  (ho : (0 ≤ ((0 : Int)) ∧ ((0 : Int)) ≤ 160)) (kon : ∀ h1, me_W [.inl (6913, (0 : Int))] h h1 → me_E (d + 3) 89 6 [some (.inr (.inr 54)), some (.inr (.inr 56)), some (.inl ((0 : Int)))] [] h1 Q) : me_E (d + 3) 89 0 [some (.inr (.inr 54)), some (.inr (.inr 56)), none] [] h Q := mf_seg (mp_ktoIA_0 h d ) (mi_tab_ktoIA_0) hS (mi_okL_c (trivial) (mi_okL_c (trivial) (mi_okL_n (mi_okL_e)))) (mi_okS_e) (mi_al (ho) (mi_al_e)) (fun h1 W _ hst => kon h1 W)
set_option maxRecDepth 20000 in
theorem mt_ktoIA {h : sm_H} {d : Nat} {Q : Option mi_V → sm_H → Prop} (hS : ab_Sh sx_sk h)  (k0 : (∀ h1, ab_Sh sx_sk h1 → mi_f h1 6913 = (0 : Int) → ab_Fr [(6913, 6914)] h h1 → me_E (d + 3) 89 6 [some (.inr (.inr 54)), some (.inr (.inr 56)), some (.inl ((0 : Int)))] [] h1 Q)) : me_E (d + 3) 89 0 [some (.inr (.inr 54)), some (.inr (.inr 56)), none] [] h Q := ms_ktoIA_0 hS ((by decide)) (fun h1 W => (k0) h1 W.1 (W.2.1 6913) (W.2.2.2.2.2 _ rfl))
set_option maxRecDepth 20000 in
theorem mp_ktoIB_0 (h : sm_H) (d : Nat) (zk : Int) : mj_path [(89, (3, 0, sb_89)), (22, (1, 1, sb_22))] sx_sk h 7 [1] (d + 3, 89, 6, [some (.inr (.inr 54)), some (.inr (.inr 56)), some (.inl (zk))], [], [], []) = some ((d + 3, 89, 30, [some (.inr (.inr 54)), some (.inr (.inr 56)), some (.inl (zk))], [], [], []), [(mi_f h 7169) ≤ zk]) := rfl
theorem mi_tab_ktoIB_0 : ∀ e ∈ ([(89, (3, 0, sb_89)), (22, (1, 1, sb_22))] : mi_T), sc_P e.1 = some e.2 := mi_tb mi_P89 (mi_tb mi_P22 (mi_tb_e))
set_option maxRecDepth 20000 in
theorem ms_ktoIB_0 {h : sm_H} {d : Nat} {Q : Option mi_V → sm_H → Prop} {zk : Int} (hS : ab_Sh sx_sk h) (ok_zk : mi_in zk) (ho : ((mi_f h 7169) ≤ zk)) (kon : ∀ h1, me_W [] h h1 → Q none h1) : me_E (d + 3) 89 6 [some (.inr (.inr 54)), some (.inr (.inr 56)), some (.inl (zk))] [] h Q := mf_seg (mp_ktoIB_0 h d zk) (mi_tab_ktoIB_0) hS (mi_okL_c (trivial) (mi_okL_c (trivial) (mi_okL_c (ok_zk) (mi_okL_e)))) (mi_okS_e) (mi_al (ho) (mi_al_e)) (fun h1 W _ hst => mf_ret (M := (3, 0, sb_89)) rfl rfl rfl hst (mi_al_e) (kon h1 W))
set_option maxRecDepth 20000 in
theorem mp_ktoIB_1 (h : sm_H) (d : Nat) (zk : Int) : mj_path [(89, (3, 0, sb_89)), (22, (1, 1, sb_22))] sx_sk h 10 [0] (d + 3, 89, 6, [some (.inr (.inr 54)), some (.inr (.inr 56)), some (.inl (zk))], [], [], []) = some ((d + 3, 89, 17, [some (.inr (.inr 54)), some (.inr (.inr 56)), some (.inl (zk))], [.inl (zk), .inr (.inr 56), .inr (.inr 54)], [], []), [zk < (mi_f h 7169)]) := rfl
theorem mi_tab_ktoIB_1 : ∀ e ∈ ([(89, (3, 0, sb_89)), (22, (1, 1, sb_22))] : mi_T), sc_P e.1 = some e.2 := mi_tb mi_P89 (mi_tb mi_P22 (mi_tb_e))
set_option maxRecDepth 20000 in
theorem ms_ktoIB_1 {h : sm_H} {d : Nat} {Q : Option mi_V → sm_H → Prop} {zk : Int} (hS : ab_Sh sx_sk h) (ok_zk : mi_in zk) (ho : (zk < (mi_f h 7169))) (kon : ∀ h1, me_W [] h h1 → ∃ Q1, me_E (d + 2) 20 0 (mi_entry 2 [.inr (.inr 56), .inl (zk)]) [] h1 Q1 ∧ ∀ w h2, (∀ x, w = some x → mi_ok x) → Q1 w h2 → me_E (d + 3) 89 20 [some (.inr (.inr 54)), some (.inr (.inr 56)), some (.inl (zk))] (mi_back w [.inr (.inr 54)]) h2 Q) : me_E (d + 3) 89 6 [some (.inr (.inr 54)), some (.inr (.inr 56)), some (.inl (zk))] [] h Q := mf_seg (mp_ktoIB_1 h d zk) (mi_tab_ktoIB_1) hS (mi_okL_c (trivial) (mi_okL_c (trivial) (mi_okL_c (ok_zk) (mi_okL_e)))) (mi_okS_e) (mi_al (ho) (mi_al_e)) (fun h1 W _ hst => let ⟨_, k1, k2⟩ := kon h1 W; mf_call (M := (3, 0, sb_89)) (M' := (2, 5, sb_20)) rfl rfl rfl rfl (Nat.le_of_ble_eq_true rfl) (Nat.le_of_ble_eq_true rfl) W.1 k1 k2)
set_option maxRecDepth 20000 in
theorem mt_ktoIB {h : sm_H} {d : Nat} {Q : Option mi_V → sm_H → Prop} {zk : Int} (hS : ab_Sh sx_sk h) (ok_zk : mi_in zk) (k0 : (0 ≤ mi_f h 7169 ∧ mi_f h 7169 ≤ 160) → ((mi_f h 7169) ≤ zk) → (∀ h1, ab_Sh sx_sk h1 → ab_Fr [] h h1 → Q none h1)) (k1 : (0 ≤ mi_f h 7169 ∧ mi_f h 7169 ≤ 160) → (zk < (mi_f h 7169)) → (∀ h1, ab_Sh sx_sk h1 → ab_Fr [] h h1 → ∃ Q1, me_E (d + 2) 20 0 (mi_entry 2 [.inr (.inr 56), .inl (zk)]) [] h1 Q1 ∧ ∀ w h2, (∀ x, w = some x → mi_ok x) → Q1 w h2 → me_E (d + 3) 89 20 [some (.inr (.inr 54)), some (.inr (.inr 56)), some (.inl (zk))] (mi_back w [.inr (.inr 54)]) h2 Q)) : me_E (d + 3) 89 6 [some (.inr (.inr 54)), some (.inr (.inr 56)), some (.inl (zk))] [] h Q := Or.elim (mi_em .ge (zk) ((mi_f h 7169))) (fun c0 => ms_ktoIB_0 hS ok_zk (c0) (fun h1 W => (k0 (me_fb hS rfl) c0) h1 W.1 (W.2.2.2.2.2 _ rfl))) (fun c0 => ms_ktoIB_1 hS ok_zk (c0) (fun h1 W => (k1 (me_fb hS rfl) c0) h1 W.1 (W.2.2.2.2.2 _ rfl)))
set_option maxRecDepth 20000 in
theorem mp_ktoIC_0 (h : sm_H) (d : Nat) (zk zc : Int) : mj_path [(89, (3, 0, sb_89))] sx_sk h 0 [] (d + 3, 89, 20, [some (.inr (.inr 54)), some (.inr (.inr 56)), some (.inl (zk))], [.inl (zc), .inr (.inr 54)], [], []) = some ((d + 3, 89, 20, [some (.inr (.inr 54)), some (.inr (.inr 56)), some (.inl (zk))], [.inl (zc), .inr (.inr 54)], [], []), []) := rfl
theorem mi_tab_ktoIC_0 : ∀ e ∈ ([(89, (3, 0, sb_89))] : mi_T), sc_P e.1 = some e.2 := mi_tb mi_P89 (mi_tb_e)
set_option maxRecDepth 20000 in
theorem ms_ktoIC_0 {h : sm_H} {d : Nat} {Q : Option mi_V → sm_H → Prop} {zk zc : Int} (hS : ab_Sh sx_sk h) (ok_zk : mi_in zk) (ok_zc : mi_in zc) (kon : ∀ h1, me_W [] h h1 → ∃ Q1, me_E (d + 2) 91 0 (mi_entry 3 [.inr (.inr 54), .inl (zc)]) [] h1 Q1 ∧ ∀ w h2, (∀ x, w = some x → mi_ok x) → Q1 w h2 → me_E (d + 3) 89 23 [some (.inr (.inr 54)), some (.inr (.inr 56)), some (.inl (zk))] (mi_back w []) h2 Q) : me_E (d + 3) 89 20 [some (.inr (.inr 54)), some (.inr (.inr 56)), some (.inl (zk))] [.inl (zc), .inr (.inr 54)] h Q := mf_seg (mp_ktoIC_0 h d zk zc) (mi_tab_ktoIC_0) hS (mi_okL_c (trivial) (mi_okL_c (trivial) (mi_okL_c (ok_zk) (mi_okL_e)))) (mi_okS_cons (ok_zc) (mi_okS_cons (trivial) (mi_okS_e))) (mi_al_e) (fun h1 W _ hst => let ⟨_, k1, k2⟩ := kon h1 W; mf_call (M := (3, 0, sb_89)) (M' := (3, 4, sb_91)) rfl rfl rfl rfl (Nat.le_of_ble_eq_true rfl) (Nat.le_of_ble_eq_true rfl) W.1 k1 k2)
set_option maxRecDepth 20000 in
theorem mt_ktoIC {h : sm_H} {d : Nat} {Q : Option mi_V → sm_H → Prop} {zk zc : Int} (hS : ab_Sh sx_sk h) (ok_zk : mi_in zk) (ok_zc : mi_in zc) (k0 : (∀ h1, ab_Sh sx_sk h1 → ab_Fr [] h h1 → ∃ Q1, me_E (d + 2) 91 0 (mi_entry 3 [.inr (.inr 54), .inl (zc)]) [] h1 Q1 ∧ ∀ w h2, (∀ x, w = some x → mi_ok x) → Q1 w h2 → me_E (d + 3) 89 23 [some (.inr (.inr 54)), some (.inr (.inr 56)), some (.inl (zk))] (mi_back w []) h2 Q)) : me_E (d + 3) 89 20 [some (.inr (.inr 54)), some (.inr (.inr 56)), some (.inl (zk))] [.inl (zc), .inr (.inr 54)] h Q := ms_ktoIC_0 hS ok_zk ok_zc (fun h1 W => (k0) h1 W.1 (W.2.2.2.2.2 _ rfl))
set_option maxRecDepth 20000 in
theorem mp_ktoID_0 (h : sm_H) (d : Nat) (zk zz : Int) : mj_path [(89, (3, 0, sb_89))] sx_sk h 3 [] (d + 3, 89, 23, [some (.inr (.inr 54)), some (.inr (.inr 56)), some (.inl (zk))], [.inl (zz)], [], []) = some ((d + 3, 89, 6, [some (.inr (.inr 54)), some (.inr (.inr 56)), some (.inl (zk + 1))], [], [], []), [-2147483648 ≤ zk + 1 ∧ zk + 1 ≤ 2147483647]) := rfl
theorem mi_tab_ktoID_0 : ∀ e ∈ ([(89, (3, 0, sb_89))] : mi_T), sc_P e.1 = some e.2 := mi_tb mi_P89 (mi_tb_e)
set_option maxRecDepth 20000 in
theorem ms_ktoID_0 {h : sm_H} {d : Nat} {Q : Option mi_V → sm_H → Prop} {zk zz : Int} (hS : ab_Sh sx_sk h) (ok_zk : mi_in zk) (ok_zz : mi_in zz) (ho : (-2147483648 ≤ zk + 1 ∧ zk + 1 ≤ 2147483647)) (kon : ∀ h1, me_W [] h h1 → me_E (d + 3) 89 6 [some (.inr (.inr 54)), some (.inr (.inr 56)), some (.inl (zk + 1))] [] h1 Q) : me_E (d + 3) 89 23 [some (.inr (.inr 54)), some (.inr (.inr 56)), some (.inl (zk))] [.inl (zz)] h Q := mf_seg (mp_ktoID_0 h d zk zz) (mi_tab_ktoID_0) hS (mi_okL_c (trivial) (mi_okL_c (trivial) (mi_okL_c (ok_zk) (mi_okL_e)))) (mi_okS_cons (ok_zz) (mi_okS_e)) (mi_al (ho) (mi_al_e)) (fun h1 W _ hst => kon h1 W)
set_option maxRecDepth 20000 in
theorem mt_ktoID {h : sm_H} {d : Nat} {Q : Option mi_V → sm_H → Prop} {zk zz : Int} (hS : ab_Sh sx_sk h) (ok_zk : mi_in zk) (ok_zz : mi_in zz) (k0 : ((-2147483648 ≤ zk + 1 ∧ zk + 1 ≤ 2147483647)) ∧ (∀ h1, ab_Sh sx_sk h1 → ab_Fr [] h h1 → me_E (d + 3) 89 6 [some (.inr (.inr 54)), some (.inr (.inr 56)), some (.inl (zk + 1))] [] h1 Q)) : me_E (d + 3) 89 23 [some (.inr (.inr 54)), some (.inr (.inr 56)), some (.inl (zk))] [.inl (zz)] h Q := ms_ktoID_0 hS ok_zk ok_zz ((k0).1) (fun h1 W => (k0).2 h1 W.1 (W.2.2.2.2.2 _ rfl))
set_option maxRecDepth 20000 in
theorem mp_ktoIE_0 (h : sm_H) (d : Nat) (zk : Int) : mj_path [(20, (2, 5, sb_20))] sx_sk h 3 [1] (d + 2, 20, 0, [some (.inr (.inr 56)), some (.inl (zk))], [], [], []) = some ((d + 2, 20, 32, [some (.inr (.inr 56)), some (.inl (zk))], [.inl ((32 : Int))], [], []), [zk < ((0 : Int))]) := rfl
theorem mi_tab_ktoIE_0 : ∀ e ∈ ([(20, (2, 5, sb_20))] : mi_T), sc_P e.1 = some e.2 := mi_tb mi_P20 (mi_tb_e)
set_option maxRecDepth 20000 in
theorem ms_ktoIE_0 {h : sm_H} {d : Nat} {Q : Option mi_V → sm_H → Prop} {zk : Int} (hS : ab_Sh sx_sk h) (ok_zk : mi_in zk) (ho : (zk < ((0 : Int))) ∧ (0 ≤ ((32 : Int)) ∧ ((32 : Int)) ≤ 65535)) (kon : ∀ h1, me_W [] h h1 → Q (some (.inl ((32 : Int)))) h1) : me_E (d + 2) 20 0 [some (.inr (.inr 56)), some (.inl (zk))] [] h Q := mf_seg (mp_ktoIE_0 h d zk) (mi_tab_ktoIE_0) hS (mi_okL_c (trivial) (mi_okL_c (ok_zk) (mi_okL_e))) (mi_okS_e) (mi_al (ho.1) (mi_al_e)) (fun h1 W _ hst => mf_ret (M := (2, 5, sb_20)) rfl rfl rfl hst (mi_al (ho.2) mi_al_e) (kon h1 W))
set_option maxRecDepth 20000 in
theorem mp_ktoIE_1 (h : sm_H) (d : Nat) (zk : Int) : mj_path [(20, (2, 5, sb_20))] sx_sk h 7 [0, 1] (d + 2, 20, 0, [some (.inr (.inr 56)), some (.inl (zk))], [], [], []) = some ((d + 2, 20, 32, [some (.inr (.inr 56)), some (.inl (zk))], [.inl ((32 : Int))], [], []), [((0 : Int)) ≤ zk, (mi_f h 7169) ≤ zk]) := rfl
theorem mi_tab_ktoIE_1 : ∀ e ∈ ([(20, (2, 5, sb_20))] : mi_T), sc_P e.1 = some e.2 := mi_tb mi_P20 (mi_tb_e)
set_option maxRecDepth 20000 in
theorem ms_ktoIE_1 {h : sm_H} {d : Nat} {Q : Option mi_V → sm_H → Prop} {zk : Int} (hS : ab_Sh sx_sk h) (ok_zk : mi_in zk) (ho : (((0 : Int)) ≤ zk) ∧ ((mi_f h 7169) ≤ zk) ∧ (0 ≤ ((32 : Int)) ∧ ((32 : Int)) ≤ 65535)) (kon : ∀ h1, me_W [] h h1 → Q (some (.inl ((32 : Int)))) h1) : me_E (d + 2) 20 0 [some (.inr (.inr 56)), some (.inl (zk))] [] h Q := mf_seg (mp_ktoIE_1 h d zk) (mi_tab_ktoIE_1) hS (mi_okL_c (trivial) (mi_okL_c (ok_zk) (mi_okL_e))) (mi_okS_e) (mi_al (ho.1) (mi_al (ho.2.1) (mi_al_e))) (fun h1 W _ hst => mf_ret (M := (2, 5, sb_20)) rfl rfl rfl hst (mi_al (ho.2.2) mi_al_e) (kon h1 W))
set_option maxRecDepth 20000 in
theorem mp_ktoIE_2 (h : sm_H) (d : Nat) (zk : Int) : mj_path [(20, (2, 5, sb_20))] sx_sk h 12 [0, 0, 1] (d + 2, 20, 0, [some (.inr (.inr 56)), some (.inl (zk))], [], [], []) = some ((d + 2, 20, 32, [some (.inr (.inr 56)), some (.inl (zk))], [.inl ((32 : Int))], [], []), [((0 : Int)) ≤ zk, zk < (mi_f h 7169), ((160 : Int)) ≤ zk]) := rfl
theorem mi_tab_ktoIE_2 : ∀ e ∈ ([(20, (2, 5, sb_20))] : mi_T), sc_P e.1 = some e.2 := mi_tb mi_P20 (mi_tb_e)
set_option maxRecDepth 20000 in
theorem ms_ktoIE_2 {h : sm_H} {d : Nat} {Q : Option mi_V → sm_H → Prop} {zk : Int} (hS : ab_Sh sx_sk h) (ok_zk : mi_in zk) (ho : (((0 : Int)) ≤ zk) ∧ (zk < (mi_f h 7169)) ∧ (((160 : Int)) ≤ zk) ∧ (0 ≤ ((32 : Int)) ∧ ((32 : Int)) ≤ 65535)) (kon : ∀ h1, me_W [] h h1 → Q (some (.inl ((32 : Int)))) h1) : me_E (d + 2) 20 0 [some (.inr (.inr 56)), some (.inl (zk))] [] h Q := mf_seg (mp_ktoIE_2 h d zk) (mi_tab_ktoIE_2) hS (mi_okL_c (trivial) (mi_okL_c (ok_zk) (mi_okL_e))) (mi_okS_e) (mi_al (ho.1) (mi_al (ho.2.1) (mi_al (ho.2.2.1) (mi_al_e)))) (fun h1 W _ hst => mf_ret (M := (2, 5, sb_20)) rfl rfl rfl hst (mi_al (ho.2.2.2) mi_al_e) (kon h1 W))
set_option maxRecDepth 20000 in
theorem mp_ktoIE_3 (h : sm_H) (d : Nat) (zk : Int) : mj_path [(20, (2, 5, sb_20))] sx_sk h 16 [0, 0, 0] (d + 2, 20, 0, [some (.inr (.inr 56)), some (.inl (zk))], [], [], []) = some ((d + 2, 20, 32, [some (.inr (.inr 56)), some (.inl (zk))], [.inl (mi_a h 57 (Int.toNat zk))], [], []), [((0 : Int)) ≤ zk, zk < (mi_f h 7169), zk < ((160 : Int)), 0 ≤ zk ∧ zk < 160]) := rfl
theorem mi_tab_ktoIE_3 : ∀ e ∈ ([(20, (2, 5, sb_20))] : mi_T), sc_P e.1 = some e.2 := mi_tb mi_P20 (mi_tb_e)
set_option maxRecDepth 20000 in
theorem ms_ktoIE_3 {h : sm_H} {d : Nat} {Q : Option mi_V → sm_H → Prop} {zk : Int} (hS : ab_Sh sx_sk h) (ok_zk : mi_in zk) (ho : (((0 : Int)) ≤ zk) ∧ (zk < (mi_f h 7169)) ∧ (zk < ((160 : Int))) ∧ (0 ≤ zk ∧ zk < 160) ∧ (0 ≤ (mi_a h 57 (Int.toNat zk)) ∧ (mi_a h 57 (Int.toNat zk)) ≤ 65535)) (kon : ∀ h1, me_W [] h h1 → Q (some (.inl (mi_a h 57 (Int.toNat zk)))) h1) : me_E (d + 2) 20 0 [some (.inr (.inr 56)), some (.inl (zk))] [] h Q := mf_seg (mp_ktoIE_3 h d zk) (mi_tab_ktoIE_3) hS (mi_okL_c (trivial) (mi_okL_c (ok_zk) (mi_okL_e))) (mi_okS_e) (mi_al (ho.1) (mi_al (ho.2.1) (mi_al (ho.2.2.1) (mi_al (ho.2.2.2.1) (mi_al_e))))) (fun h1 W _ hst => mf_ret (M := (2, 5, sb_20)) rfl rfl rfl hst (mi_al (ho.2.2.2.2) mi_al_e) (kon h1 W))
set_option maxRecDepth 20000 in
theorem mt_ktoIE {h : sm_H} {d : Nat} {Q : Option mi_V → sm_H → Prop} {zk : Int} (hS : ab_Sh sx_sk h) (ok_zk : mi_in zk) (k0 : (zk < ((0 : Int))) → (∀ h1, ab_Sh sx_sk h1 → ab_Fr [] h h1 → Q (some (.inl ((32 : Int)))) h1)) (k1 : (0 ≤ mi_f h 7169 ∧ mi_f h 7169 ≤ 160) → (((0 : Int)) ≤ zk) → ((mi_f h 7169) ≤ zk) → (∀ h1, ab_Sh sx_sk h1 → ab_Fr [] h h1 → Q (some (.inl ((32 : Int)))) h1)) (k2 : (0 ≤ mi_f h 7169 ∧ mi_f h 7169 ≤ 160) → (((0 : Int)) ≤ zk) → (zk < (mi_f h 7169)) → (((160 : Int)) ≤ zk) → (∀ h1, ab_Sh sx_sk h1 → ab_Fr [] h h1 → Q (some (.inl ((32 : Int)))) h1)) (k3 : (0 ≤ mi_f h 7169 ∧ mi_f h 7169 ≤ 160) → (((0 : Int)) ≤ zk) → (zk < (mi_f h 7169)) → (zk < ((160 : Int))) → ((0 ≤ zk ∧ zk < 160) ∧ (0 ≤ (mi_a h 57 (Int.toNat zk)) ∧ (mi_a h 57 (Int.toNat zk)) ≤ 65535)) ∧ (∀ h1, ab_Sh sx_sk h1 → ab_Fr [] h h1 → Q (some (.inl (mi_a h 57 (Int.toNat zk)))) h1)) : me_E (d + 2) 20 0 [some (.inr (.inr 56)), some (.inl (zk))] [] h Q := Or.elim (mi_em .lt (zk) (((0 : Int)))) (fun c0 => ms_ktoIE_0 hS ok_zk ⟨c0, (by decide)⟩ (fun h1 W => (k0 c0) h1 W.1 (W.2.2.2.2.2 _ rfl))) (fun c0 => Or.elim (mi_em .ge (zk) ((mi_f h 7169))) (fun c1 => ms_ktoIE_1 hS ok_zk ⟨c0, c1, (by decide)⟩ (fun h1 W => (k1 (me_fb hS rfl) c0 c1) h1 W.1 (W.2.2.2.2.2 _ rfl))) (fun c1 => Or.elim (mi_em .ge (zk) (((160 : Int)))) (fun c2 => ms_ktoIE_2 hS ok_zk ⟨c0, c1, c2, (by decide)⟩ (fun h1 W => (k2 (me_fb hS rfl) c0 c1 c2) h1 W.1 (W.2.2.2.2.2 _ rfl))) (fun c2 => ms_ktoIE_3 hS ok_zk ⟨c0, c1, c2, (k3 (me_fb hS rfl) c0 c1 c2).1.1, (k3 (me_fb hS rfl) c0 c1 c2).1.2⟩ (fun h1 W => (k3 (me_fb hS rfl) c0 c1 c2).2 h1 W.1 (W.2.2.2.2.2 _ rfl)))))
set_option maxRecDepth 20000 in
theorem mp_kcaA_0 (h : sm_H) (d : Nat) : mj_path [(88, (1, 1, sb_88))] sx_sk h 4 [] (d + 4, 88, 0, [some (.inr (.inr 51))], [], [], []) = some ((d + 4, 88, 8, [some (.inr (.inr 51))], [.inr (.inr 56), .inr (.inr 54)], [], []), []) := rfl
theorem mi_tab_kcaA_0 : ∀ e ∈ ([(88, (1, 1, sb_88))] : mi_T), sc_P e.1 = some e.2 := mi_tb mi_P88 (mi_tb_e)
set_option maxRecDepth 20000 in
theorem ms_kcaA_0 {h : sm_H} {d : Nat} {Q : Option mi_V → sm_H → Prop} (hS : ab_Sh sx_sk h)  (kon : ∀ h1, me_W [] h h1 → ∃ Q1, me_E (d + 3) 89 0 (mi_entry 3 [.inr (.inr 54), .inr (.inr 56)]) [] h1 Q1 ∧ ∀ w h2, (∀ x, w = some x → mi_ok x) → Q1 w h2 → me_E (d + 4) 88 11 [some (.inr (.inr 51))] (mi_back w []) h2 Q) : me_E (d + 4) 88 0 [some (.inr (.inr 51))] [] h Q := mf_seg (mp_kcaA_0 h d ) (mi_tab_kcaA_0) hS (mi_okL_c (trivial) (mi_okL_e)) (mi_okS_e) (mi_al_e) (fun h1 W _ hst => let ⟨_, k1, k2⟩ := kon h1 W; mf_call (M := (1, 1, sb_88)) (M' := (3, 0, sb_89)) rfl rfl rfl rfl (Nat.le_of_ble_eq_true rfl) (Nat.le_of_ble_eq_true rfl) W.1 k1 k2)
set_option maxRecDepth 20000 in
theorem mt_kcaA {h : sm_H} {d : Nat} {Q : Option mi_V → sm_H → Prop} (hS : ab_Sh sx_sk h)  (k0 : (∀ h1, ab_Sh sx_sk h1 → ab_Fr [] h h1 → ∃ Q1, me_E (d + 3) 89 0 (mi_entry 3 [.inr (.inr 54), .inr (.inr 56)]) [] h1 Q1 ∧ ∀ w h2, (∀ x, w = some x → mi_ok x) → Q1 w h2 → me_E (d + 4) 88 11 [some (.inr (.inr 51))] (mi_back w []) h2 Q)) : me_E (d + 4) 88 0 [some (.inr (.inr 51))] [] h Q := ms_kcaA_0 hS (fun h1 W => (k0) h1 W.1 (W.2.2.2.2.2 _ rfl))
set_option maxRecDepth 20000 in
theorem mp_kcaB_0 (h : sm_H) (d : Nat) : mj_path [(88, (1, 1, sb_88)), (22, (1, 1, sb_22))] sx_sk h 6 [] (d + 4, 88, 11, [some (.inr (.inr 51))], [], [], []) = some ((d + 4, 88, 18, [some (.inr (.inr 51))], [.inl (mi_f h 6913)], [], []), []) := rfl
theorem mi_tab_kcaB_0 : ∀ e ∈ ([(88, (1, 1, sb_88)), (22, (1, 1, sb_22))] : mi_T), sc_P e.1 = some e.2 := mi_tb mi_P88 (mi_tb mi_P22 (mi_tb_e))
set_option maxRecDepth 20000 in
theorem ms_kcaB_0 {h : sm_H} {d : Nat} {Q : Option mi_V → sm_H → Prop} (hS : ab_Sh sx_sk h)  (kon : ∀ h1, me_W [] h h1 → Q (some (.inl (mi_f h 6913))) h1) : me_E (d + 4) 88 11 [some (.inr (.inr 51))] [] h Q := mf_seg (mp_kcaB_0 h d ) (mi_tab_kcaB_0) hS (mi_okL_c (trivial) (mi_okL_e)) (mi_okS_e) (mi_al_e) (fun h1 W _ hst => mf_ret (M := (1, 1, sb_88)) rfl rfl rfl hst (mi_al_e) (kon h1 W))
set_option maxRecDepth 20000 in
theorem mt_kcaB {h : sm_H} {d : Nat} {Q : Option mi_V → sm_H → Prop} (hS : ab_Sh sx_sk h)  (k0 : (∀ h1, ab_Sh sx_sk h1 → ab_Fr [] h h1 → Q (some (.inl (mi_f h 6913))) h1)) : me_E (d + 4) 88 11 [some (.inr (.inr 51))] [] h Q := ms_kcaB_0 hS (fun h1 W => (k0) h1 W.1 (W.2.2.2.2.2 _ rfl))
/-! what the leaves tell: which units, which values; what is printed of them -/
section EVQ
variable {g : wk_g} {V : Int → Int} {Y : wk_Y} {t : Int → Int}
def evq (Y : wk_Y) (g : wk_g) (s' : gm_S) (L : List (Int × Int)) : Prop := ∀ e ∈ L, (0 ≤ e.1 ∧ e.1 < wk_u Y) ∧ (g 119 e.1.toNat = 1 → ∃ x ∈ gm_T s', x.1 % 10 = 2 ∧ x.2.1 = e.2) ∧ (g 119 e.1.toNat = 2 → ∃ x ∈ gm_T s', x.1 % 10 = 3 ∧ x.2.1 = e.2)
theorem evq_nil {s' : gm_S} : evq Y g s' [] := fun e he => absurd he List.not_mem_nil
theorem evq_sub {s1 s' : gm_S} {L : List (Int × Int)} (h : evq Y g s1 L) (hs : ∀ x ∈ gm_T s1, x ∈ gm_T s') : evq Y g s' L := fun e he => by
  obtain ⟨a, b, c⟩ := h e he
  refine ⟨a, fun q => ?_, fun q => ?_⟩
  · obtain ⟨x, x1, x2⟩ := b q
    exact ⟨x, hs x x1, x2⟩
  · obtain ⟨x, x1, x2⟩ := c q
    exact ⟨x, hs x x1, x2⟩
theorem evq_app {s' : gm_S} {L M : List (Int × Int)} (h1 : evq Y g s' L) (h2 : evq Y g s' M) : evq Y g s' (L ++ M) := fun e he => by
  rcases List.mem_append.mp he with he | he
  · exact h1 e he
  · exact h2 e he
theorem apt_sub {k : Int} {s s' : gm_S} (h : apt k s s') : ∀ x ∈ gm_T s, x ∈ gm_T s' := fun x hx => by
  obtain ⟨-, -, A, a, -⟩ := h
  rw [a]
  exact List.mem_append_left _ hx
theorem cl_sub {s : gm_S} : ∀ x ∈ gm_T s, x ∈ gm_T (gm_cl s) := fun x hx => by
  rw [cl_T]
  exact hx
def evF (g : wk_g) (V : Int → Int) (Y : wk_Y) (N : Nat) : Prop := ∀ n, n < N → ∀ u f s s' L, 0 ≤ f → f < wk_f Y → rn g V n u [(1, f, 0)] s s' L → evq Y g s' L
theorem ev_sg {N : Nat} (hL : wk_L g Y) (hF : evF g V Y N) {n : Nat} {u p : Int} {s s' : gm_S} {L : List (Int × Int)} (hn : n < N) (p0 : 0 ≤ p) (p1 : p < wk_u Y) (h : sgr g V n u p s s' L) : evq Y g s' L := by
  obtain ⟨-, -, -, l9, l10, -⟩ := hL.2.2.1 p p0 p1
  by_cases c9 : g 119 p.toNat = 9
  · obtain ⟨-, t', m, s2, h1, h2, h3, h4⟩ := sgr_9 c9 h
    obtain ⟨-, -, -, -, r1, r2, -⟩ := l9 c9
    subst h4
    exact evq_sub (hF m (by omega) _ _ _ _ _ r1 r2 h3) cl_sub
  · by_cases c10 : g 119 p.toNat = 10
    · obtain ⟨x1, x2, -⟩ := l10 c10
      exact hF n hn _ _ _ _ _ x1 x2 (sgr_10 c10 h)
    · obtain ⟨h1, h2⟩ := sgr_lf c9 c10 h
      subst h1
      intro e he
      have he := List.mem_singleton.mp he
      subst he
      refine ⟨⟨p0, p1⟩, fun q => ?_, fun q => ?_⟩
      · rcases h2 with ⟨a, b⟩ | ⟨a, b⟩ | ⟨a, -⟩
        · obtain ⟨-, -, t3, -, -⟩ := gm_c_t b
          exact ⟨_, by rw [t3]; exact List.mem_append_right _ List.mem_cons_self, by dsimp only; omega, rfl⟩
        · exact absurd q (by dsimp only; omega)
        · exact absurd q a
      · rcases h2 with ⟨a, b⟩ | ⟨a, b⟩ | ⟨-, a, -⟩
        · exact absurd q (by dsimp only; omega)
        · obtain ⟨-, -, t3, -, -⟩ := gm_c_t b
          exact ⟨_, by rw [t3]; exact List.mem_append_right _ List.mem_cons_self, by dsimp only; omega, rfl⟩
        · exact absurd q a
theorem ev_5 {N : Nat} (hL : wk_L g Y) (hT : tt_G t g Y) (hr : ∀ p, 0 ≤ p → p < wk_u Y → 0 ≤ g 122 p.toNat ∧ g 122 p.toNat ≤ 2) (hF : evF g V Y N) {u p : Int} (p0 : 0 ≤ p) (p1 : p < wk_u Y) : ∀ (k : Nat) (a : Int) (n : Nat) (s s' : gm_S) (L : List (Int × Int)), a ≤ k → n ≤ N → rn g V n u [(5, p, a)] s s' L → evq Y g s' L := by
  intro k
  induction k with
  | zero =>
    intro a n s s' L ha hn h
    rcases rn_5 h with ⟨c, -⟩ | ⟨-, -, c⟩
    · omega
    · rw [c]
      exact evq_nil
  | succ k ih =>
    intro a n s s' L ha hn h
    rcases rn_5 h with ⟨c, m1, m2, s1, L1, L2, h1, h2, h3, h4, h5⟩ | ⟨-, -, c⟩
    · obtain ⟨j, hj⟩ := tpq_5 hL (tpq_all hL hT hr N) p0 p1 (a - 1).toNat _ m2 _ _ _ (by omega) (by omega) h4
      rw [h5]
      exact evq_app (evq_sub (ev_sg hL hF (by omega) p0 p1 h3) (apt_sub hj)) (ih (a - 1) m2 s1 s' L2 (by omega) (by omega) h4)
    · rw [c]
      exact evq_nil
theorem ev_u {N : Nat} (hL : wk_L g Y) (hT : tt_G t g Y) (hr : ∀ p, 0 ≤ p → p < wk_u Y → 0 ≤ g 122 p.toNat ∧ g 122 p.toNat ≤ 2) (hF : evF g V Y N) {n : Nat} {u p o : Int} {s s' : gm_S} {L : List (Int × Int)} (hn : n ≤ N) (p0 : 0 ≤ p) (p1 : p < wk_u Y) (h : rn g V n u [(0, p, o)] s s' L) : evq Y g s' L := by
  by_cases c1 : g 122 p.toNat = 1
  · obtain ⟨t', m, s2, h1, h2, h3, h4⟩ := rn_u1 c1 h
    subst h4
    exact evq_sub (ev_5 hL hT hr hF p0 p1 (V (gm_len (gm_op o s))).toNat _ m _ _ _ (by omega) (by omega) h3) cl_sub
  · by_cases c2 : g 122 p.toNat = 2
    · obtain ⟨t', h1, h2⟩ := rn_u2 c2 h
      rcases h2 with ⟨-, m, s2, h3, h4, h5⟩ | ⟨-, h4, -⟩
      · subst h5
        exact evq_sub (ev_sg hL hF (by omega) p0 p1 h4) cl_sub
      · rw [h4]
        exact evq_nil
    · obtain ⟨m, h1, h2⟩ := rn_u0 c1 c2 h
      exact ev_sg hL hF (by omega) p0 p1 h2
theorem ev_it {N : Nat} (hL : wk_L g Y) (hT : tt_G t g Y) (hr : ∀ p, 0 ≤ p → p < wk_u Y → 0 ≤ g 122 p.toNat ∧ g 122 p.toNat ≤ 2) (hF : evF g V Y N) {u : Int} : ∀ (K : Nat) (p : Int) (n : Nat) (s s' : gm_S) (L : List (Int × Int)), n ≤ N → (p < 0 ∨ p < wk_u Y) → rn g V n u (wk_it g K p) s s' L → evq Y g s' L := by
  intro K
  induction K with
  | zero =>
    intro p n s s' L hn hp h
    have h : rn g V n u [] s s' L := h
    rw [(rn_nil h).2]
    exact evq_nil
  | succ K ih =>
    intro p n s s' L hn hp h
    by_cases c : p < 0
    · have e : wk_it g (K + 1) p = [] := by rw [wk_it, if_pos c]
      rw [e] at h
      rw [(rn_nil h).2]
      exact evq_nil
    · have hp : p < wk_u Y := by omega
      obtain ⟨-, lm, ln, -⟩ := hL.2.2.1 p (by omega) hp
      have nx : g 125 p.toNat < 0 ∨ g 125 p.toNat < wk_u Y := by
        by_cases q : 0 ≤ g 125 p.toNat
        · exact Or.inr (ln q).1
        · exact Or.inl (by omega)
      have tF := tpq_all (V := V) hL hT hr N
      by_cases cm : 0 ≤ g 124 p.toNat
      · have e : wk_it g (K + 1) p = (0, p, 1) :: (3, 0, 0) :: (0, g 124 p.toNat, 0) :: (4, 0, 0) :: wk_it g K (g 125 p.toNat) := by rw [wk_it, if_neg c, if_pos cm]
        rw [e] at h
        obtain ⟨n1, n2, n3, s1, s2, L1, L2, L3, h1, h2, h3, h4, h5, h6, h7⟩ := rn_i1 h
        have a1 := tpq_u hL hT hr tF (by omega) (by omega) hp h4
        have a2 := tpq_u hL hT hr tF (by omega) cm (lm cm).1 h5
        have a3 := tpq_it hL hT hr tF K _ n3 _ _ _ (by omega) nx h6
        have o0 : gm_op 0 (gm_mid s1) = gm_mid s1 := by unfold gm_op; rw [if_neg (by decide)]
        rw [o0] at a2
        have s3 := apt_sub a3
        obtain ⟨-, x2, A, x3, -⟩ := a1
        obtain ⟨-, y2, B, y3, -⟩ := a2
        obtain ⟨z1, -, -⟩ := pair_T x2 x3 y2 y3
        rw [gm_op_t] at x3
        rw [gm_mid_T] at y3
        have q2 : ∀ x ∈ gm_T s2, x ∈ gm_T s' := fun x hx => s3 x (by
          rw [z1]
          rw [y3, x3] at hx
          simp only [List.mem_append] at hx ⊢
          rcases hx with (hx | hx) | hx
          · exact Or.inl hx
          · exact Or.inr (Or.inr hx)
          · exact Or.inr (Or.inl hx))
        have q1 : ∀ x ∈ gm_T s1, x ∈ gm_T s' := fun x hx => q2 x (by rw [y3]; exact List.mem_append_left _ hx)
        rw [h7]
        exact evq_app (evq_sub (ev_u hL hT hr hF (by omega) (by omega) hp h4) q1) (evq_app (evq_sub (ev_u hL hT hr hF (by omega) cm (lm cm).1 h5) q2) (ih _ _ _ _ _ (by omega) nx h6))
      · have e : wk_it g (K + 1) p = (0, p, 0) :: wk_it g K (g 125 p.toNat) := by rw [wk_it, if_neg c, if_neg cm]
        rw [e] at h
        obtain ⟨n1, n2, s1, L1, L2, h1, h2, h3, h4, h5⟩ := rn_i0 h
        have a3 := tpq_it hL hT hr tF K _ n2 _ _ _ (by omega) nx h4
        rw [h5]
        exact evq_app (evq_sub (ev_u hL hT hr hF (by omega) (by omega) hp h3) (apt_sub a3)) (ih _ _ _ _ _ (by omega) nx h4)
theorem ev_all (hL : wk_L g Y) (hT : tt_G t g Y) (hr : ∀ p, 0 ≤ p → p < wk_u Y → 0 ≤ g 122 p.toNat ∧ g 122 p.toNat ≤ 2) : ∀ N : Nat, evF g V Y N := by
  intro N
  induction N with
  | zero => intro n hn; omega
  | succ N ih =>
    intro n hn u f s s' L f0 f1 h
    obtain ⟨-, -, d3, -, -, d5⟩ := hL.2.2.2 f f0 f1
    by_cases c : 1 < g 130 f.toNat
    · obtain ⟨cv, t', m, s2, h1, h2, h3, h4⟩ := rn_f1 c h
      subst h4
      obtain ⟨-, -, p8⟩ := d5 (V (gm_len s)).toNat (by omega)
      exact evq_sub (ev_it hL hT hr ih 61 _ m _ _ _ (by omega) (by omega) h3) cl_sub
    · obtain ⟨m, h1, h2⟩ := rn_f0 c h
      obtain ⟨-, -, p8⟩ := d5 0 (by omega)
      have p8 : g 126 (g 129 f.toNat).toNat < 0 ∨ (g 126 (g 129 f.toNat).toNat < wk_u Y ∧ wk_c Y (g 126 (g 129 f.toNat).toNat) = f) := p8
      exact ev_it hL hT hr ih 61 _ m _ _ _ (by omega) (by omega) h2
end EVQ
theorem dv_len {g : wk_g} {V : Int → Int} {e : wk_E} {s : gm_S} : (dv g V e s).length ≤ 1 := by
  have l : ∀ u c, (dv_lf g V u c).length ≤ 1 := fun u c => by
    unfold dv_lf
    split
    · exact Nat.zero_le _
    · exact Nat.le_refl _
  unfold dv
  split
  · split
    · exact Nat.zero_le _
    · split
      · split
        · exact l _ _
        · exact Nat.zero_le _
      · exact l _ _
  · split
    · split
      · exact l _ _
      · exact Nat.zero_le _
    · exact Nat.zero_le _
theorem pe_len {g : wk_g} {V : Int → Int} {st : wk_E → List wk_E → gm_S → Option gm_C} {d : gm_C} : ∀ (n : Nat) (c : gm_C) (L : List (Int × Int)), pe_to st (dv g V) n c d L → L.length ≤ n := by
  intro n
  induction n with
  | zero =>
    intro c L h
    rw [h.2]
    exact Nat.le_refl _
  | succ n ih =>
    intro c L h
    obtain ⟨e, r, c1, L1, h1, h2, h3, h4⟩ := h
    have := ih c1 L1 h3
    have := dv_len (g := g) (V := V) (e := e) (s := c.2)
    rw [h4, List.length_append]
    omega
/-! what is printed are characters -/
def oal (x : Option ox) : Prop := ∀ o, x = some o → ∀ c ∈ o.1, tx_alc c
theorem ow_al {c : Int} {C C' : List Int} (h : ow c C = some C') (hc : tx_alc c) (hC : ∀ c ∈ C, tx_alc c) : ∀ c ∈ C', tx_alc c := by
  unfold ow at h
  split at h
  · cases h
  · injection h with h
    subst h
    intro x hx
    rcases List.mem_append.mp hx with hx | hx
    · exact hC x hx
    · rw [List.mem_singleton.mp hx]
      exact hc
theorem owl_al {W : List Int} (hW : ∀ c ∈ W, tx_alc c) {C C' : List Int} (h : owl W C = some C') (hC : ∀ c ∈ C, tx_alc c) : ∀ c ∈ C', tx_alc c := by
  rw [owl_e _ _ _ h]
  intro x hx
  rcases List.mem_append.mp hx with hx | hx
  · exact hC x hx
  · exact hW x hx
theorem otk_al {W : List Int} (hW : ∀ c ∈ W, tx_alc c) {o o' : ox} (h : otk W o = some o') (hC : ∀ c ∈ o.1, tx_alc c) : ∀ c ∈ o'.1, tx_alc c := by
  unfold otk at h
  obtain ⟨o1, h1, h2⟩ := Option.bind_eq_some_iff.mp h
  unfold owlx at h2
  obtain ⟨C, h3, h4⟩ := Option.map_eq_some_iff.mp h2
  subst h4
  refine owl_al hW h3 ?_
  unfold ob at h1
  obtain ⟨C1, h5, h6⟩ := Option.map_eq_some_iff.mp h1
  subst h6
  dsimp only
  unfold obw at h5
  split at h5
  · obtain ⟨C2, h7, h8⟩ := Option.bind_eq_some_iff.mp h5
    exact owl_al (fun c hc => by rw [List.eq_of_mem_replicate hc]; exact al32) h8 (ow_al h7 al10 hC)
  · split at h5
    · exact ow_al h5 al32 hC
    · injection h5 with h5
      rw [← h5]
      exact hC
theorem dgf_al {n : Int} : ∀ (k : Nat) (e : Int), ∀ c ∈ dgf n k e, tx_alc c := by
  intro k
  induction k with
  | zero => intro e c hc; cases hc
  | succ k ih =>
    intro e c hc
    rw [dgf] at hc
    split at hc
    · rcases List.mem_cons.mp hc with rfl | hc
      · exact Or.inr ⟨by omega, by omega⟩
      · exact ih _ c hc
    · cases hc
def lit_ok (c : Int) : Prop := (0 < c ∧ lgd 6 c) ∨ (c < 0 ∧ tx_alc (-c) ∧ wy (-c) = false)
theorem lts_al {v : Int} (h : lgd 6 v) : ∀ c ∈ lts v, tx_alc c := fun c hc => by
  have : lts v = ltf 6 v := ltf_le 6 v h 7 (by decide)
  rw [this] at hc
  exact (ltf_wy 6 v h c hc).2
theorem oev_al {Lr : Nat → Int} {g : wk_g} {e : Int × Int} (hv : vpp_e g e) (hl : g 119 e.1.toNat = 8 → lit_ok (Lr (g 120 e.1.toNat).toNat)) {o o' : ox} (h : oev Lr (g 119 e.1.toNat) (g 120 e.1.toNat) e.2 o = some o') (hC : ∀ c ∈ o.1, tx_alc c) : ∀ c ∈ o'.1, tx_alc c := by
  unfold oev at h
  split at h
  · refine otk_al (fun c hc => ?_) h hC
    unfold tkw at hc
    by_cases c8 : g 119 e.1.toNat = 8
    · rw [if_pos c8] at hc
      rcases hl c8 with ⟨a, b⟩ | ⟨a, b, -⟩
      · rw [if_pos a] at hc
        exact lts_al b c hc
      · rw [if_neg (by omega)] at hc
        rw [List.mem_singleton.mp hc]
        exact b
    · rw [if_neg c8] at hc
      by_cases c2 : g 119 e.1.toNat = 2
      · rw [if_pos c2] at hc
        exact lts_al (hv.2 c2).2 c hc
      · rw [if_neg c2] at hc
        exact dgf_al 5 _ c hc
  · injection h with h
    rw [← h]
    exact hC
theorem ofd_al {Lr : Nat → Int} {g : wk_g} : ∀ (L : List (Int × Int)) (x : Option ox), (∀ e ∈ L, vpp_e g e) → (∀ e ∈ L, g 119 e.1.toNat = 8 → lit_ok (Lr (g 120 e.1.toNat).toNat)) → oal x → oal (ofd Lr g L x) := by
  intro L
  induction L with
  | nil => intro x _ _ h; exact h
  | cons e L ih =>
    intro x h1 h2 h
    refine ih _ (fun e he => h1 e (List.mem_cons_of_mem _ he)) (fun e he => h2 e (List.mem_cons_of_mem _ he)) ?_
    intro o ho
    obtain ⟨o1, a, b⟩ := Option.bind_eq_some_iff.mp ho
    exact oev_al (h1 e List.mem_cons_self) (h2 e List.mem_cons_self) b (h o1 a)
/-! print of the class, exactly; texts taken over -/
section CTO
variable {d : Nat} {h : sm_H}
def to_OW : List (Nat × Nat) := [(7169, 7170), (7296, 7297)]
def to_IW : List (Nat × Nat) := [(6913, 6914), (7040, 7041)]
theorem me_toO (hS : ab_Sh sx_sk h) (hc : ∀ k : Nat, (k : Int) < mi_f h 7425 → tx_alc (mi_a h 59 k)) : me_E (d + 3) 89 0 [some (.inr (.inr 56)), some (.inr (.inr 58)), none] [] h (fun w h' => w = none ∧ ab_Sh sx_sk h' ∧ ab_Fr to_OW h h' ∧ mi_f h' 7169 = mi_f h 7425 ∧ ∀ k : Nat, (k : Int) < mi_f h 7425 → mi_a h' 57 k = mi_a h 59 k) := by
  have lp : ∀ (N : Nat) (zk : Int) (h1 : sm_H), mi_f h 7425 - zk ≤ N → 0 ≤ zk → zk ≤ mi_f h 7425 → ab_Sh sx_sk h1 → ab_Fr to_OW h h1 → mi_f h1 7169 = zk → (∀ k : Nat, (k : Int) < zk → mi_a h1 57 k = mi_a h 59 k) → me_E (d + 3) 89 6 [some (.inr (.inr 56)), some (.inr (.inr 58)), some (.inl zk)] [] h1 (fun w h' => w = none ∧ ab_Sh sx_sk h' ∧ ab_Fr to_OW h h' ∧ mi_f h' 7169 = mi_f h 7425 ∧ ∀ k : Nat, (k : Int) < mi_f h 7425 → mi_a h' 57 k = mi_a h 59 k) := by
    intro N
    induction N with
    | zero =>
      intro zk h1 hN k0 k1 hS1 hF e1 e2
      have b := me_fb (c := 7425) hS rfl
      have e25 : mi_f h1 7425 = mi_f h 7425 := me_f (c := 7425) hF hS rfl rfl
      refine mt_ktoOB hS1 ⟨by omega, by omega⟩ ?_ (by intros; exfalso; omega)
      intro b1 c1 h2 g1 g2
      have e := me_nil g2
      subst e
      exact ⟨rfl, g1, hF, by omega, fun k hk => e2 k (by omega)⟩
    | succ N ih =>
      intro zk h1 hN k0 k1 hS1 hF e1 e2
      have b := me_fb (c := 7425) hS rfl
      have e25 : mi_f h1 7425 = mi_f h 7425 := me_f (c := 7425) hF hS rfl rfl
      have ok : mi_in zk := ⟨by omega, by omega⟩
      refine mt_ktoOB hS1 ok ?_ ?_
      · intro b1 c1 h2 g1 g2
        have e := me_nil g2
        subst e
        exact ⟨rfl, g1, hF, by omega, fun k hk => e2 k (by omega)⟩
      · intro b1 c1 h2 g1 g2
        have e := me_nil g2
        subst e
        have a59 : mi_a h2 59 zk.toNat = mi_a h 59 zk.toNat := me_a (k := 59) hF hS rfl rfl
        have hal := hc zk.toNat (by omega)
        rw [← a59] at hal
        have hal2 := hal
        unfold tx_alc at hal2
        refine ⟨fun w h' => w = some (.inl (mi_a h2 59 zk.toNat)) ∧ h' = h2, mt_ktoOE hS1 ok (by intros; exfalso; omega) (by intros; exfalso; omega) (by intros; exfalso; omega) ?_, fun w h3 hw hq => ?_⟩
        · intro x1 x2 x3 x4
          exact ⟨⟨⟨by omega, by omega⟩, by omega, by omega⟩, fun h3 s1 s2 => ⟨rfl, me_nil s2⟩⟩
        obtain ⟨rfl, rfl⟩ := hq
        have oc : mi_in (mi_a h3 59 zk.toNat) := ⟨by omega, by omega⟩
        refine mt_ktoOC hS1 ok oc ?_
        intro h4 r1 r2
        have e := me_nil r2
        subst e
        refine ⟨_, (me_app56 (d := d + 2) hS1 hal), fun w h5 hw hq => ?_⟩
        obtain ⟨q1, ⟨rfl, q2, q3, q4, q5⟩ | ⟨-, q2, -⟩⟩ := hq
        · refine mt_ktoOD q1 ok ⟨by decide, by decide⟩ ?_
          refine ⟨⟨by omega, by omega⟩, fun h6 t1 t2 => ?_⟩
          have e := me_nil t2
          subst e
          refine ih (zk + 1) h6 (by omega) (by omega) (by omega) q1 (hF.trans (q5.wide (fun c hc => ab_swr_ok (by decide) hc))) (by omega) (fun k hk => ?_)
          rw [q4, e1]
          by_cases ek : k = zk.toNat
          · rw [if_pos ek, ek, a59]
          · rw [if_neg ek]
            exact e2 k (by omega)
        · exfalso; omega
  have b := me_fb (c := 7425) hS rfl
  refine mt_ktoOA hS ?_
  intro h1 g1 g2 g3
  exact lp (mi_f h 7425).toNat 0 h1 (by omega) (by decide) (by omega) g1 (g3.wide (fun c hc => ab_swr_ok (by decide) hc)) g2 (fun k hk => by omega)
theorem me_toI (hS : ab_Sh sx_sk h) (hc : ∀ k : Nat, (k : Int) < mi_f h 7169 → tx_alc (mi_a h 57 k)) : me_E (d + 3) 89 0 [some (.inr (.inr 54)), some (.inr (.inr 56)), none] [] h (fun w h' => w = none ∧ ab_Sh sx_sk h' ∧ ab_Fr to_IW h h' ∧ mi_f h' 6913 = mi_f h 7169 ∧ ∀ k : Nat, (k : Int) < mi_f h 7169 → mi_a h' 55 k = mi_a h 57 k) := by
  have lp : ∀ (N : Nat) (zk : Int) (h1 : sm_H), mi_f h 7169 - zk ≤ N → 0 ≤ zk → zk ≤ mi_f h 7169 → ab_Sh sx_sk h1 → ab_Fr to_IW h h1 → mi_f h1 6913 = zk → (∀ k : Nat, (k : Int) < zk → mi_a h1 55 k = mi_a h 57 k) → me_E (d + 3) 89 6 [some (.inr (.inr 54)), some (.inr (.inr 56)), some (.inl zk)] [] h1 (fun w h' => w = none ∧ ab_Sh sx_sk h' ∧ ab_Fr to_IW h h' ∧ mi_f h' 6913 = mi_f h 7169 ∧ ∀ k : Nat, (k : Int) < mi_f h 7169 → mi_a h' 55 k = mi_a h 57 k) := by
    intro N
    induction N with
    | zero =>
      intro zk h1 hN k0 k1 hS1 hF e1 e2
      have b := me_fb (c := 7169) hS rfl
      have e25 : mi_f h1 7169 = mi_f h 7169 := me_f (c := 7169) hF hS rfl rfl
      refine mt_ktoIB hS1 ⟨by omega, by omega⟩ ?_ (by intros; exfalso; omega)
      intro b1 c1 h2 g1 g2
      have e := me_nil g2
      subst e
      exact ⟨rfl, g1, hF, by omega, fun k hk => e2 k (by omega)⟩
    | succ N ih =>
      intro zk h1 hN k0 k1 hS1 hF e1 e2
      have b := me_fb (c := 7169) hS rfl
      have e25 : mi_f h1 7169 = mi_f h 7169 := me_f (c := 7169) hF hS rfl rfl
      have ok : mi_in zk := ⟨by omega, by omega⟩
      refine mt_ktoIB hS1 ok ?_ ?_
      · intro b1 c1 h2 g1 g2
        have e := me_nil g2
        subst e
        exact ⟨rfl, g1, hF, by omega, fun k hk => e2 k (by omega)⟩
      · intro b1 c1 h2 g1 g2
        have e := me_nil g2
        subst e
        have a59 : mi_a h2 57 zk.toNat = mi_a h 57 zk.toNat := me_a (k := 57) hF hS rfl rfl
        have hal := hc zk.toNat (by omega)
        rw [← a59] at hal
        have hal2 := hal
        unfold tx_alc at hal2
        refine ⟨fun w h' => w = some (.inl (mi_a h2 57 zk.toNat)) ∧ h' = h2, mt_ktoIE hS1 ok (by intros; exfalso; omega) (by intros; exfalso; omega) (by intros; exfalso; omega) ?_, fun w h3 hw hq => ?_⟩
        · intro x1 x2 x3 x4
          exact ⟨⟨⟨by omega, by omega⟩, by omega, by omega⟩, fun h3 s1 s2 => ⟨rfl, me_nil s2⟩⟩
        obtain ⟨rfl, rfl⟩ := hq
        have oc : mi_in (mi_a h3 57 zk.toNat) := ⟨by omega, by omega⟩
        refine mt_ktoIC hS1 ok oc ?_
        intro h4 r1 r2
        have e := me_nil r2
        subst e
        refine ⟨_, (me_app54 (d := d + 2) hS1 hal), fun w h5 hw hq => ?_⟩
        obtain ⟨q1, ⟨rfl, q2, q3, q4, q5⟩ | ⟨-, q2, -⟩⟩ := hq
        · refine mt_ktoID q1 ok ⟨by decide, by decide⟩ ?_
          refine ⟨⟨by omega, by omega⟩, fun h6 t1 t2 => ?_⟩
          have e := me_nil t2
          subst e
          refine ih (zk + 1) h6 (by omega) (by omega) (by omega) q1 (hF.trans (q5.wide (fun c hc => ab_swr_ok (by decide) hc))) (by omega) (fun k hk => ?_)
          rw [q4, e1]
          by_cases ek : k = zk.toNat
          · rw [if_pos ek, ek, a59]
          · rw [if_neg ek]
            exact e2 k (by omega)
        · exfalso; omega
  have b := me_fb (c := 7169) hS rfl
  refine mt_ktoIA hS ?_
  intro h1 g1 g2 g3
  exact lp (mi_f h 7169).toNat 0 h1 (by omega) (by decide) (by omega) g1 (g3.wide (fun c hc => ab_swr_ok (by decide) hc)) g2 (fun k hk => by omega)
/-- carry -/
theorem me_carryc (hS : ab_Sh sx_sk h) (hc : ∀ k : Nat, (k : Int) < mi_f h 7169 → tx_alc (mi_a h 57 k)) : me_E (d + 4) 88 0 [some (.inr (.inr 51))] [] h (fun w h' => w = some (.inl (mi_f h 7169)) ∧ ab_Sh sx_sk h' ∧ ab_Fr to_IW h h' ∧ mi_f h' 6913 = mi_f h 7169 ∧ ∀ k : Nat, (k : Int) < mi_f h 7169 → mi_a h' 55 k = mi_a h 57 k) := by
  refine mt_kcaA hS ?_
  intro h1 g1 g2
  have e := me_nil g2
  subst e
  refine ⟨_, me_toI (d := d) g1 hc, fun w h2 hw hq => ?_⟩
  obtain ⟨rfl, q1, q2, q3, q4⟩ := hq
  refine mt_kcaB q1 ?_
  intro h3 r1 r2
  have e := me_nil r2
  subst e
  exact ⟨by rw [q3], q1, q2, q3, q4⟩
end CTO
def wr_pv : List (Nat × Nat) := [(7425, 7426), (7552, 7553), (13827, 13830), (13831, 13837)]
def wr_pz : List (Nat × Nat) := (7169, 7170) :: (7296, 7297) :: wr_pv
/-- what is asked of the tree that is printed -/
def pz_H (Lr : Nat → Int) (g : wk_g) (V : Int → Int) (h : sm_H) (L : List (Int × Int)) : Prop := ∃ f it Y kw n s', vpp_H f it g Y kw Lr h ∧ wk_Lrule Y (g 114 0) ∧ f (g 114 0) = 0 ∧ pe_to (dm_st g V 0) (dv g V) n (tr_0 g) ([], s') L ∧ n < 40000 ∧ rh h 0 (gm_T s') ∧ mi_f h 12032 = ((gm_T s').length : Int) ∧ ∀ x ∈ gm_T s', (x.1 % 10 = 5 → x.2.1 ≤ 161) ∧ (x.1 % 10 = 2 → 0 ≤ x.2.1 ∧ x.2.1 ≤ 9999) ∧ (x.1 % 10 = 3 → 0 < x.2.1 ∧ lgd 6 x.2.1)
section CPX
variable {Lr : Nat → Int} {g : wk_g} {V : Int → Int} {h : sm_H} {L : List (Int × Int)}
theorem me_wwalk (hS : ab_Sh sx_sk h) (hP : pz_H Lr g V h L) : me_E 249 103 0 [some (.inr (.inr 108))] [] h (fun w h' => w = none ∧ ab_Sh sx_sk h' ∧ ab_Fr wr_pv h h' ∧ oC h' (ofd Lr g L (some ([], 0, 0, 0))) ∧ oal (ofd Lr g L (some ([], 0, 0, 0)))) := by
  obtain ⟨f, it, Y, kw, n, s', hH, hr, rf, hrun, hn, hR, hN, hT⟩ := hP
  have e0 : wk_ul [(2, 1, 0)] = 1 := by rw [wk_ul_o, ul_nil]; rfl
  have hrun0 : rn g V n 0 ([(1, g 114 0, 0)] ++ [(2, 1, 0)]) (0, 0, [(1, 0, 0)], 1, []) s' L := hrun
  obtain ⟨m, s2, m1, m2, m3⟩ := rn_in hrun0
  rw [Int.zero_add] at m2
  obtain ⟨t, ht⟩ : ∃ t : gm_S, t = (0, 0, [(1, 0, 0)], 0, []) := ⟨_, rfl⟩
  have edt : ((0, 0, [(1, 0, 0)], 1, []) : gm_S) = gm_d t := by
    rw [ht]
    unfold gm_d
    rw [gm_X_mk, gm_F_mk, gm_T_mk, gm_D_mk, gm_P_mk]
    rfl
  rw [edt] at m2
  obtain ⟨-, -, B, b3, b4, -⟩ := vpp_tF (V := V) hH (m + 1) m (by omega) _ _ _ _ _ hr.1 hr.2.1 m2
  have eD : gm_D (gm_d t) = 0 + 1 := by rw [← edt, gm_D_mk]; rfl
  have eT : gm_T (gm_d t) = [(1, 0, 0)] := by rw [← edt, gm_T_mk]
  rw [eD] at b4
  have eTs : gm_T s' = (1, 0, 0) :: B := by rw [m3, cl_T, b3, eT]; rfl
  have hR' := hR
  have hT' := hT
  rw [eTs] at hR hN
  obtain ⟨-, -, r3⟩ := rh_cons b4 hR
  rw [List.length_cons] at hN
  have n100 := hH.2.2
  have hev := ev_all (V := V) hH.1.1 hH.2.1.2 (vpp_rep hH) (m + 1) m (by omega) _ _ _ _ _ hr.1 hr.2.1 m2
  have hevs : evq Y g s' L := evq_sub hev (by rw [m3]; exact cl_sub)
  have hv : ∀ e ∈ L, vpp_e g e := fun e he => by
    obtain ⟨-, v1, v2⟩ := hevs e he
    refine ⟨fun q => ?_, fun q => ?_⟩
    · obtain ⟨x, x1, x2, x3⟩ := v1 q
      rw [← x3]
      exact (hT x x1).2.1 x2
    · obtain ⟨x, x1, x2, x3⟩ := v2 q
      rw [← x3]
      exact (hT x x1).2.2 x2
  have hlit : ∀ e ∈ L, g 119 e.1.toNat = 8 → lit_ok (Lr (g 120 e.1.toNat).toNat) := fun e he q => ((hH.2.1.1 e.1 (hevs e he).1.1 (hevs e he).1.2).2 q).2.2.2
  have hlen := pe_len _ _ _ hrun
  have hal : oal (ofd Lr g L (some ([], 0, 0, 0))) := ofd_al L _ hv hlit (fun o ho c hc => by
    injection ho with ho
    rw [← ho] at hc
    exact absurd hc List.not_mem_nil)
  refine mt_krhA (d := 240) hS ?_
  intro h1 g1 k1 k2 k3 k4 k5 k6 k7 k8 k9 k10 kF
  have hi1 : vpp_in h1 0 0 ([], 0, 0, 0) := ⟨g1, Or.inr ⟨_, rfl, k2, k10, k1, fun k hk => absurd hk (Nat.not_lt_zero _), k8, k7, k6⟩, fun o ho hn => by
    injection ho with ho
    rw [← ho] at hn
    exact absurd rfl hn, k4, k5, by omega⟩
  have hH1 : vpp_H f it g Y kw Lr h1 := vpp_H_fr hH kF hS rfl rfl rfl
  have n1 : mi_f h1 12032 = mi_f h 12032 := me_f (c := 12032) kF hS rfl rfl
  have key := me_wuse (d := 240) (u := 0) (i := 0) (zd := 0) (q := 0) (t := t) (s2 := s2) (L := L) (B := B) (V := V) (vpp_F_all 60 (by decide)) hi1 hH1 (by decide) (by decide) hr.1 hr.2.1 rf (by decide) (by decide) (by decide) (by decide) (by decide) m2 ⟨b3, rh_fr r3 kF hS rfl, by omega, hv, by omega, fun x hx => (hT x (by rw [eTs]; exact List.mem_cons_of_mem _ hx)).1⟩
  refine ⟨_, key, fun w h2 hw hq => ?_⟩
  obtain ⟨rfl, q1, q2, q3, q4, -⟩ := hq
  have F2 : ab_Fr wr_pv h h2 := (kF.wide (fun c hc => ab_swr_ok (by decide) hc)).trans (q2.wide (fun c hc => ab_swr_ok (by decide) hc))
  refine mt_krhB (d := 240) q1 ?_ ?_
  · intro b c h3 r1 r2
    have e := me_nil r2
    subst e
    exact ⟨rfl, q1, F2, q4, hal⟩
  · intro b c h3 r1 r2
    have e := me_nil r2
    subst e
    exact ⟨rfl, q1, F2, q4, hal⟩
def pz_T (h : sm_H) (R : Option ox) (x : Nat) (h' : sm_H) : Prop := ∃ h1, h' = h1 ++ [sm_exc x] ∧ ab_Sh sx_sk h1 ∧ ab_Fr wr_pv h h1 ∧ ((x = 14 ∧ mi_f h 12032 = 0) ∨ (x = 15 ∧ mi_f h 12032 ≠ 0 ∧ R = none))
def pz_Q (h : sm_H) (R : Option ox) (w : Option mi_V) (h' : sm_H) : Prop := ab_Sh sx_sk h' ∧ mi_f h 12032 ≠ 0 ∧ ∃ o, R = some o ∧ w = some (.inl (o.1.length : Int)) ∧ ab_Fr wr_pz h h' ∧ mi_f h' 7169 = (o.1.length : Int) ∧ (∀ k : Nat, k < o.1.length → o.1[k]? = some (mi_a h' 57 k)) ∧ ∀ c ∈ o.1, tx_alc c
theorem me_printc {R : Option ox} (hS : ab_Sh sx_sk h) (hP : mi_f h 12032 ≠ 0 → pz_H Lr g V h L ∧ R = ofd Lr g L (some ([], 0, 0, 0))) : mg_E (pz_T h R) 250 164 0 [some (.inr (.inr 51))] [] h (pz_Q h R) := by
  refine mt_kqoA (d := 249) hS ?_ ?_
  · intro b c h1 g1 g2
    have e := me_nil g2
    subst e
    obtain ⟨hP1, hR⟩ := hP c
    refine ⟨_, me_wwalk g1 hP1, fun w h2 hw hq => ?_⟩
    obtain ⟨rfl, q1, q2, q3, q4⟩ := hq
    rw [← hR] at q3 q4
    refine mt_kqoB (d := 249) q1 ?_ ?_
    · intro b1 c1 h3 r1 r2
      have e := me_nil r2
      subst e
      rcases q3 with ⟨-, -, x, -⟩ | ⟨o, ho, -, -, o1, o2, -⟩
      · exfalso; omega
      have hal := q4 o ho
      refine ⟨_, me_toO (d := 246) q1 (fun k hk => ?_), fun w h4 hw4 hq4 => ?_⟩
      · have := o2 k (by omega)
        exact hal _ (List.mem_of_getElem? this)
      obtain ⟨rfl, v1, v2, v3, v4⟩ := hq4
      refine mt_kqoC (d := 249) v1 ?_
      intro h5 t1 t2
      have e := me_nil t2
      subst e
      refine ⟨v1, c, o, ho, by rw [v3, o1], (q2.wide (fun c hc => ab_swr_ok (by decide) hc)).trans (v2.wide (fun c hc => ab_swr_ok (by decide) hc)), by rw [v3, o1], fun k hk => ?_, hal⟩
      rw [v4 k (by omega)]
      exact o2 k hk
    · intro b1 c1 h3 r1 r2
      have e := me_nil r2
      subst e
      rcases q3 with ⟨x, -⟩ | ⟨o, -, -, x, -⟩
      · exact mg_thr (M := (1, 1, sb_164)) (x := 15) rfl rfl rfl ⟨h3, rfl, q1, q2, Or.inr ⟨rfl, c, x⟩⟩
      · exact absurd x c1
  · intro b c h1 g1 g2
    have e := me_nil g2
    subst e
    exact mg_thr (M := (1, 1, sb_164)) (x := 14) rfl rfl rfl ⟨h1, rfl, g1, ab_Fr.refl, Or.inl ⟨rfl, c⟩⟩
end CPX
/-! segments: node, output, carry, keep, compare, count -/
set_option maxRecDepth 20000 in
theorem mp_xnoA_0 (h : sm_H) (d : Nat) (zk zw : Int) : mi_path [(233, (4, 2, sb_233))] sx_sk h 10 [1, 0] (d + 1, 233, 0, [some (.inr (.inr 109)), some (.inl (zk)), some (.inl (zw)), none], [], [], []) = some ((d + 1, 233, 42, [some (.inr (.inr 109)), some (.inl (zk)), some (.inl (zw)), none], [.inr (.inl (Int64.ofNat 0))], [.inl (13952, (1 : Int))], []), [zk < ((0 : Int)), ((0 : Int)) < ((1 : Int))]) := rfl
theorem mi_tab_xnoA_0 : ∀ e ∈ ([(233, (4, 2, sb_233))] : mi_T), sc_P e.1 = some e.2 := mi_tb mi_P233 (mi_tb_e)
set_option maxRecDepth 20000 in
theorem ms_xnoA_0 {h : sm_H} {d : Nat} {Q : Option mi_V → sm_H → Prop} {zk zw : Int} (hS : ab_Sh sx_sk h) (ok_zk : mi_in zk) (ok_zw : mi_in zw) (ho : (zk < ((0 : Int))) ∧ (((0 : Int)) < ((1 : Int)))) (kon : ∀ h1, me_W [.inl (13952, (1 : Int))] h h1 → Q (some (.inr (.inl (Int64.ofNat 0)))) h1) : me_E (d + 1) 233 0 [some (.inr (.inr 109)), some (.inl (zk)), some (.inl (zw)), none] [] h Q := me_seg (mp_xnoA_0 h d zk zw) (mi_tab_xnoA_0) hS (mi_okL_c (trivial) (mi_okL_c (ok_zk) (mi_okL_c (ok_zw) (mi_okL_n (mi_okL_e))))) (mi_okS_e) (mi_al (ho.1) (mi_al (ho.2) (mi_al_e))) (fun h1 W _ hst => me_ret (M := (4, 2, sb_233)) rfl rfl rfl hst (mi_al_e) (kon h1 W))
set_option maxRecDepth 20000 in
theorem mp_xnoA_1 (h : sm_H) (d : Nat) (zk zw : Int) : mi_path [(233, (4, 2, sb_233))] sx_sk h 16 [0, 1, 1, 0] (d + 1, 233, 0, [some (.inr (.inr 109)), some (.inl (zk)), some (.inl (zw)), none], [], [], []) = some ((d + 1, 233, 42, [some (.inr (.inr 109)), some (.inl (zk)), some (.inl (zw)), none], [.inr (.inl (Int64.ofNat 0))], [.inl (13952, (2 : Int))], []), [((0 : Int)) ≤ zk, zk < (mi_f h 14015), zw < ((0 : Int)), ((0 : Int)) < ((2 : Int))]) := rfl
theorem mi_tab_xnoA_1 : ∀ e ∈ ([(233, (4, 2, sb_233))] : mi_T), sc_P e.1 = some e.2 := mi_tb mi_P233 (mi_tb_e)
set_option maxRecDepth 20000 in
theorem ms_xnoA_1 {h : sm_H} {d : Nat} {Q : Option mi_V → sm_H → Prop} {zk zw : Int} (hS : ab_Sh sx_sk h) (ok_zk : mi_in zk) (ok_zw : mi_in zw) (ho : (((0 : Int)) ≤ zk) ∧ (zk < (mi_f h 14015)) ∧ (zw < ((0 : Int))) ∧ (((0 : Int)) < ((2 : Int)))) (kon : ∀ h1, me_W [.inl (13952, (2 : Int))] h h1 → Q (some (.inr (.inl (Int64.ofNat 0)))) h1) : me_E (d + 1) 233 0 [some (.inr (.inr 109)), some (.inl (zk)), some (.inl (zw)), none] [] h Q := me_seg (mp_xnoA_1 h d zk zw) (mi_tab_xnoA_1) hS (mi_okL_c (trivial) (mi_okL_c (ok_zk) (mi_okL_c (ok_zw) (mi_okL_n (mi_okL_e))))) (mi_okS_e) (mi_al (ho.1) (mi_al (ho.2.1) (mi_al (ho.2.2.1) (mi_al (ho.2.2.2) (mi_al_e))))) (fun h1 W _ hst => me_ret (M := (4, 2, sb_233)) rfl rfl rfl hst (mi_al_e) (kon h1 W))
set_option maxRecDepth 20000 in
theorem mp_xnoA_2 (h : sm_H) (d : Nat) (zk zw : Int) : mi_path [(233, (4, 2, sb_233))] sx_sk h 17 [0, 1, 0, 1, 1] (d + 1, 233, 0, [some (.inr (.inr 109)), some (.inl (zk)), some (.inl (zw)), none], [], [], []) = some ((d + 1, 233, 43, [some (.inr (.inr 109)), some (.inl (zk)), some (.inl (zw)), none], [], [.inl (13952, (0 : Int))], []), [((0 : Int)) ≤ zk, zk < (mi_f h 14015), ((0 : Int)) ≤ zw, zw ≤ ((3 : Int)), ((0 : Int)) ≤ ((0 : Int))]) := rfl
theorem mi_tab_xnoA_2 : ∀ e ∈ ([(233, (4, 2, sb_233))] : mi_T), sc_P e.1 = some e.2 := mi_tb mi_P233 (mi_tb_e)
set_option maxRecDepth 20000 in
theorem ms_xnoA_2 {h : sm_H} {d : Nat} {Q : Option mi_V → sm_H → Prop} {zk zw : Int} (hS : ab_Sh sx_sk h) (ok_zk : mi_in zk) (ok_zw : mi_in zw) (ho : (((0 : Int)) ≤ zk) ∧ (zk < (mi_f h 14015)) ∧ (((0 : Int)) ≤ zw) ∧ (zw ≤ ((3 : Int))) ∧ (((0 : Int)) ≤ ((0 : Int)))) (kon : ∀ h1, me_W [.inl (13952, (0 : Int))] h h1 → me_E (d + 1) 233 43 [some (.inr (.inr 109)), some (.inl (zk)), some (.inl (zw)), none] [] h1 Q) : me_E (d + 1) 233 0 [some (.inr (.inr 109)), some (.inl (zk)), some (.inl (zw)), none] [] h Q := me_seg (mp_xnoA_2 h d zk zw) (mi_tab_xnoA_2) hS (mi_okL_c (trivial) (mi_okL_c (ok_zk) (mi_okL_c (ok_zw) (mi_okL_n (mi_okL_e))))) (mi_okS_e) (mi_al (ho.1) (mi_al (ho.2.1) (mi_al (ho.2.2.1) (mi_al (ho.2.2.2.1) (mi_al (ho.2.2.2.2) (mi_al_e)))))) (fun h1 W _ hst => kon h1 W)
set_option maxRecDepth 20000 in
theorem mp_xnoA_3 (h : sm_H) (d : Nat) (zk zw : Int) : mi_path [(233, (4, 2, sb_233))] sx_sk h 19 [0, 1, 0, 0, 0] (d + 1, 233, 0, [some (.inr (.inr 109)), some (.inl (zk)), some (.inl (zw)), none], [], [], []) = some ((d + 1, 233, 42, [some (.inr (.inr 109)), some (.inl (zk)), some (.inl (zw)), none], [.inr (.inl (Int64.ofNat 0))], [.inl (13952, (2 : Int))], []), [((0 : Int)) ≤ zk, zk < (mi_f h 14015), ((0 : Int)) ≤ zw, ((3 : Int)) < zw, ((0 : Int)) < ((2 : Int))]) := rfl
theorem mi_tab_xnoA_3 : ∀ e ∈ ([(233, (4, 2, sb_233))] : mi_T), sc_P e.1 = some e.2 := mi_tb mi_P233 (mi_tb_e)
set_option maxRecDepth 20000 in
theorem ms_xnoA_3 {h : sm_H} {d : Nat} {Q : Option mi_V → sm_H → Prop} {zk zw : Int} (hS : ab_Sh sx_sk h) (ok_zk : mi_in zk) (ok_zw : mi_in zw) (ho : (((0 : Int)) ≤ zk) ∧ (zk < (mi_f h 14015)) ∧ (((0 : Int)) ≤ zw) ∧ (((3 : Int)) < zw) ∧ (((0 : Int)) < ((2 : Int)))) (kon : ∀ h1, me_W [.inl (13952, (2 : Int))] h h1 → Q (some (.inr (.inl (Int64.ofNat 0)))) h1) : me_E (d + 1) 233 0 [some (.inr (.inr 109)), some (.inl (zk)), some (.inl (zw)), none] [] h Q := me_seg (mp_xnoA_3 h d zk zw) (mi_tab_xnoA_3) hS (mi_okL_c (trivial) (mi_okL_c (ok_zk) (mi_okL_c (ok_zw) (mi_okL_n (mi_okL_e))))) (mi_okS_e) (mi_al (ho.1) (mi_al (ho.2.1) (mi_al (ho.2.2.1) (mi_al (ho.2.2.2.1) (mi_al (ho.2.2.2.2) (mi_al_e)))))) (fun h1 W _ hst => me_ret (M := (4, 2, sb_233)) rfl rfl rfl hst (mi_al_e) (kon h1 W))
set_option maxRecDepth 20000 in
theorem mp_xnoA_4 (h : sm_H) (d : Nat) (zk zw : Int) : mi_path [(233, (4, 2, sb_233))] sx_sk h 14 [0, 0, 0] (d + 1, 233, 0, [some (.inr (.inr 109)), some (.inl (zk)), some (.inl (zw)), none], [], [], []) = some ((d + 1, 233, 42, [some (.inr (.inr 109)), some (.inl (zk)), some (.inl (zw)), none], [.inr (.inl (Int64.ofNat 0))], [.inl (13952, (1 : Int))], []), [((0 : Int)) ≤ zk, (mi_f h 14015) ≤ zk, ((0 : Int)) < ((1 : Int))]) := rfl
theorem mi_tab_xnoA_4 : ∀ e ∈ ([(233, (4, 2, sb_233))] : mi_T), sc_P e.1 = some e.2 := mi_tb mi_P233 (mi_tb_e)
set_option maxRecDepth 20000 in
theorem ms_xnoA_4 {h : sm_H} {d : Nat} {Q : Option mi_V → sm_H → Prop} {zk zw : Int} (hS : ab_Sh sx_sk h) (ok_zk : mi_in zk) (ok_zw : mi_in zw) (ho : (((0 : Int)) ≤ zk) ∧ ((mi_f h 14015) ≤ zk) ∧ (((0 : Int)) < ((1 : Int)))) (kon : ∀ h1, me_W [.inl (13952, (1 : Int))] h h1 → Q (some (.inr (.inl (Int64.ofNat 0)))) h1) : me_E (d + 1) 233 0 [some (.inr (.inr 109)), some (.inl (zk)), some (.inl (zw)), none] [] h Q := me_seg (mp_xnoA_4 h d zk zw) (mi_tab_xnoA_4) hS (mi_okL_c (trivial) (mi_okL_c (ok_zk) (mi_okL_c (ok_zw) (mi_okL_n (mi_okL_e))))) (mi_okS_e) (mi_al (ho.1) (mi_al (ho.2.1) (mi_al (ho.2.2) (mi_al_e)))) (fun h1 W _ hst => me_ret (M := (4, 2, sb_233)) rfl rfl rfl hst (mi_al_e) (kon h1 W))
set_option maxRecDepth 20000 in
theorem mt_xnoA {h : sm_H} {d : Nat} {Q : Option mi_V → sm_H → Prop} {zk zw : Int} (hS : ab_Sh sx_sk h) (ok_zk : mi_in zk) (ok_zw : mi_in zw) (k0 : (zk < ((0 : Int))) → (∀ h1, ab_Sh sx_sk h1 → mi_f h1 13952 = (1 : Int) → ab_Fr [(13952, 13953)] h h1 → Q (some (.inr (.inl (Int64.ofNat 0)))) h1)) (k1 : (0 ≤ mi_f h 14015 ∧ mi_f h 14015 ≤ 100) → (((0 : Int)) ≤ zk) → (zk < (mi_f h 14015)) → (zw < ((0 : Int))) → (∀ h1, ab_Sh sx_sk h1 → mi_f h1 13952 = (2 : Int) → ab_Fr [(13952, 13953)] h h1 → Q (some (.inr (.inl (Int64.ofNat 0)))) h1)) (k2 : (0 ≤ mi_f h 14015 ∧ mi_f h 14015 ≤ 100) → (((0 : Int)) ≤ zk) → (zk < (mi_f h 14015)) → (((0 : Int)) ≤ zw) → (zw ≤ ((3 : Int))) → (∀ h1, ab_Sh sx_sk h1 → mi_f h1 13952 = (0 : Int) → ab_Fr [(13952, 13953)] h h1 → me_E (d + 1) 233 43 [some (.inr (.inr 109)), some (.inl (zk)), some (.inl (zw)), none] [] h1 Q)) (k3 : (0 ≤ mi_f h 14015 ∧ mi_f h 14015 ≤ 100) → (((0 : Int)) ≤ zk) → (zk < (mi_f h 14015)) → (((0 : Int)) ≤ zw) → (((3 : Int)) < zw) → (∀ h1, ab_Sh sx_sk h1 → mi_f h1 13952 = (2 : Int) → ab_Fr [(13952, 13953)] h h1 → Q (some (.inr (.inl (Int64.ofNat 0)))) h1)) (k4 : (0 ≤ mi_f h 14015 ∧ mi_f h 14015 ≤ 100) → (((0 : Int)) ≤ zk) → ((mi_f h 14015) ≤ zk) → (∀ h1, ab_Sh sx_sk h1 → mi_f h1 13952 = (1 : Int) → ab_Fr [(13952, 13953)] h h1 → Q (some (.inr (.inl (Int64.ofNat 0)))) h1)) : me_E (d + 1) 233 0 [some (.inr (.inr 109)), some (.inl (zk)), some (.inl (zw)), none] [] h Q := Or.elim (mi_em .lt (zk) (((0 : Int)))) (fun c0 => ms_xnoA_0 hS ok_zk ok_zw ⟨c0, (by decide)⟩ (fun h1 W => (k0 c0) h1 W.1 (W.2.1 13952) (W.2.2.2.2.2 _ rfl))) (fun c0 => Or.elim (mi_em .lt (zk) ((mi_f h 14015))) (fun c1 => Or.elim (mi_em .lt (zw) (((0 : Int)))) (fun c2 => ms_xnoA_1 hS ok_zk ok_zw ⟨c0, c1, c2, (by decide)⟩ (fun h1 W => (k1 (me_fb hS rfl) c0 c1 c2) h1 W.1 (W.2.1 13952) (W.2.2.2.2.2 _ rfl))) (fun c2 => Or.elim (mi_em .le (zw) (((3 : Int)))) (fun c3 => ms_xnoA_2 hS ok_zk ok_zw ⟨c0, c1, c2, c3, (by decide)⟩ (fun h1 W => (k2 (me_fb hS rfl) c0 c1 c2 c3) h1 W.1 (W.2.1 13952) (W.2.2.2.2.2 _ rfl))) (fun c3 => ms_xnoA_3 hS ok_zk ok_zw ⟨c0, c1, c2, c3, (by decide)⟩ (fun h1 W => (k3 (me_fb hS rfl) c0 c1 c2 c3) h1 W.1 (W.2.1 13952) (W.2.2.2.2.2 _ rfl))))) (fun c1 => ms_xnoA_4 hS ok_zk ok_zw ⟨c0, c1, (by decide)⟩ (fun h1 W => (k4 (me_fb hS rfl) c0 c1) h1 W.1 (W.2.1 13952) (W.2.2.2.2.2 _ rfl))))
set_option maxRecDepth 20000 in
theorem mp_xnoB_0 (h : sm_H) (d : Nat) (zk zw : Int) : mi_path [(233, (4, 2, sb_233))] sx_sk h 12 [1, 1, 8] (d + 1, 233, 43, [some (.inr (.inr 109)), some (.inl (zk)), some (.inl (zw)), none], [], [], []) = some ((d + 1, 233, 116, [some (.inr (.inr 109)), some (.inl (zk)), some (.inl (zw)), some (.inl (zk + ((1 : Int))))], [], [], []), [((2 : Int)) ≤ zw, zw ≠ ((2 : Int)), -2147483648 ≤ zk + ((1 : Int)) ∧ zk + ((1 : Int)) ≤ 2147483647]) := rfl
theorem mi_tab_xnoB_0 : ∀ e ∈ ([(233, (4, 2, sb_233))] : mi_T), sc_P e.1 = some e.2 := mi_tb mi_P233 (mi_tb_e)
set_option maxRecDepth 20000 in
theorem ms_xnoB_0 {h : sm_H} {d : Nat} {Q : Option mi_V → sm_H → Prop} {zk zw : Int} (hS : ab_Sh sx_sk h) (ok_zk : mi_in zk) (ok_zw : mi_in zw) (ho : (((2 : Int)) ≤ zw) ∧ (zw ≠ ((2 : Int))) ∧ (-2147483648 ≤ zk + ((1 : Int)) ∧ zk + ((1 : Int)) ≤ 2147483647)) (kon : ∀ h1, me_W [] h h1 → me_E (d + 1) 233 116 [some (.inr (.inr 109)), some (.inl (zk)), some (.inl (zw)), some (.inl (zk + ((1 : Int))))] [] h1 Q) : me_E (d + 1) 233 43 [some (.inr (.inr 109)), some (.inl (zk)), some (.inl (zw)), none] [] h Q := me_seg (mp_xnoB_0 h d zk zw) (mi_tab_xnoB_0) hS (mi_okL_c (trivial) (mi_okL_c (ok_zk) (mi_okL_c (ok_zw) (mi_okL_n (mi_okL_e))))) (mi_okS_e) (mi_al (ho.1) (mi_al (ho.2.1) (mi_al (ho.2.2) (mi_al_e)))) (fun h1 W _ hst => kon h1 W)
set_option maxRecDepth 20000 in
theorem mp_xnoB_1 (h : sm_H) (d : Nat) (zk zw : Int) : mi_path [(233, (4, 2, sb_233))] sx_sk h 8 [1, 0] (d + 1, 233, 43, [some (.inr (.inr 109)), some (.inl (zk)), some (.inl (zw)), none], [], [], []) = some ((d + 1, 233, 86, [some (.inr (.inr 109)), some (.inl (zk)), some (.inl (zw)), some (.inl (zk))], [], [], []), [((2 : Int)) ≤ zw, zw = ((2 : Int))]) := rfl
theorem mi_tab_xnoB_1 : ∀ e ∈ ([(233, (4, 2, sb_233))] : mi_T), sc_P e.1 = some e.2 := mi_tb mi_P233 (mi_tb_e)
set_option maxRecDepth 20000 in
theorem ms_xnoB_1 {h : sm_H} {d : Nat} {Q : Option mi_V → sm_H → Prop} {zk zw : Int} (hS : ab_Sh sx_sk h) (ok_zk : mi_in zk) (ok_zw : mi_in zw) (ho : (((2 : Int)) ≤ zw) ∧ (zw = ((2 : Int)))) (kon : ∀ h1, me_W [] h h1 → me_E (d + 1) 233 86 [some (.inr (.inr 109)), some (.inl (zk)), some (.inl (zw)), some (.inl (zk))] [] h1 Q) : me_E (d + 1) 233 43 [some (.inr (.inr 109)), some (.inl (zk)), some (.inl (zw)), none] [] h Q := me_seg (mp_xnoB_1 h d zk zw) (mi_tab_xnoB_1) hS (mi_okL_c (trivial) (mi_okL_c (ok_zk) (mi_okL_c (ok_zw) (mi_okL_n (mi_okL_e))))) (mi_okS_e) (mi_al (ho.1) (mi_al (ho.2) (mi_al_e))) (fun h1 W _ hst => kon h1 W)
set_option maxRecDepth 20000 in
theorem mp_xnoB_2 (h : sm_H) (d : Nat) (zk zw : Int) : mi_path [(233, (4, 2, sb_233))] sx_sk h 12 [0, 1] (d + 1, 233, 43, [some (.inr (.inr 109)), some (.inl (zk)), some (.inl (zw)), none], [], [], []) = some ((d + 1, 233, 78, [some (.inr (.inr 109)), some (.inl (zk)), some (.inl (zw)), none], [.inr (.inl (mx_b h 162 (Int.toNat (mi_a h 157 (Int.toNat zk)))))], [], []), [zw < ((2 : Int)), zw ≠ ((0 : Int)), 0 ≤ zk ∧ zk < 100, 0 ≤ (mi_a h 157 (Int.toNat zk)) ∧ (mi_a h 157 (Int.toNat zk)) < 100]) := rfl
theorem mi_tab_xnoB_2 : ∀ e ∈ ([(233, (4, 2, sb_233))] : mi_T), sc_P e.1 = some e.2 := mi_tb mi_P233 (mi_tb_e)
set_option maxRecDepth 20000 in
theorem ms_xnoB_2 {h : sm_H} {d : Nat} {Q : Option mi_V → sm_H → Prop} {zk zw : Int} (hS : ab_Sh sx_sk h) (ok_zk : mi_in zk) (ok_zw : mi_in zw) (ho : (zw < ((2 : Int))) ∧ (zw ≠ ((0 : Int))) ∧ (0 ≤ zk ∧ zk < 100) ∧ (0 ≤ (mi_a h 157 (Int.toNat zk)) ∧ (mi_a h 157 (Int.toNat zk)) < 100)) (kon : ∀ h1, me_W [] h h1 → Q (some (.inr (.inl (mx_b h 162 (Int.toNat (mi_a h 157 (Int.toNat zk))))))) h1) : me_E (d + 1) 233 43 [some (.inr (.inr 109)), some (.inl (zk)), some (.inl (zw)), none] [] h Q := me_seg (mp_xnoB_2 h d zk zw) (mi_tab_xnoB_2) hS (mi_okL_c (trivial) (mi_okL_c (ok_zk) (mi_okL_c (ok_zw) (mi_okL_n (mi_okL_e))))) (mi_okS_e) (mi_al (ho.1) (mi_al (ho.2.1) (mi_al (ho.2.2.1) (mi_al (ho.2.2.2) (mi_al_e))))) (fun h1 W _ hst => me_ret (M := (4, 2, sb_233)) rfl rfl rfl hst (mi_al_e) (kon h1 W))
set_option maxRecDepth 20000 in
theorem mp_xnoB_3 (h : sm_H) (d : Nat) (zk zw : Int) : mi_path [(233, (4, 2, sb_233))] sx_sk h 14 [0, 0] (d + 1, 233, 43, [some (.inr (.inr 109)), some (.inl (zk)), some (.inl (zw)), none], [], [], []) = some ((d + 1, 233, 78, [some (.inr (.inr 109)), some (.inl (zk)), some (.inl (zw)), none], [.inr (.inl ((Int32.ofInt (mi_a h 155 (Int.toNat (mi_a h 157 (Int.toNat zk))))).toInt64))], [], []), [zw < ((2 : Int)), zw = ((0 : Int)), 0 ≤ zk ∧ zk < 100, 0 ≤ (mi_a h 157 (Int.toNat zk)) ∧ (mi_a h 157 (Int.toNat zk)) < 100]) := rfl
theorem mi_tab_xnoB_3 : ∀ e ∈ ([(233, (4, 2, sb_233))] : mi_T), sc_P e.1 = some e.2 := mi_tb mi_P233 (mi_tb_e)
set_option maxRecDepth 20000 in
theorem ms_xnoB_3 {h : sm_H} {d : Nat} {Q : Option mi_V → sm_H → Prop} {zk zw : Int} (hS : ab_Sh sx_sk h) (ok_zk : mi_in zk) (ok_zw : mi_in zw) (ho : (zw < ((2 : Int))) ∧ (zw = ((0 : Int))) ∧ (0 ≤ zk ∧ zk < 100) ∧ (0 ≤ (mi_a h 157 (Int.toNat zk)) ∧ (mi_a h 157 (Int.toNat zk)) < 100)) (kon : ∀ h1, me_W [] h h1 → Q (some (.inr (.inl ((Int32.ofInt (mi_a h 155 (Int.toNat (mi_a h 157 (Int.toNat zk))))).toInt64)))) h1) : me_E (d + 1) 233 43 [some (.inr (.inr 109)), some (.inl (zk)), some (.inl (zw)), none] [] h Q := me_seg (mp_xnoB_3 h d zk zw) (mi_tab_xnoB_3) hS (mi_okL_c (trivial) (mi_okL_c (ok_zk) (mi_okL_c (ok_zw) (mi_okL_n (mi_okL_e))))) (mi_okS_e) (mi_al (ho.1) (mi_al (ho.2.1) (mi_al (ho.2.2.1) (mi_al (ho.2.2.2) (mi_al_e))))) (fun h1 W _ hst => me_ret (M := (4, 2, sb_233)) rfl rfl rfl hst (mi_al_e) (kon h1 W))
set_option maxRecDepth 20000 in
theorem mt_xnoB {h : sm_H} {d : Nat} {Q : Option mi_V → sm_H → Prop} {zk zw : Int} (hS : ab_Sh sx_sk h) (ok_zk : mi_in zk) (ok_zw : mi_in zw) (k0 : (((2 : Int)) ≤ zw) → (zw ≠ ((2 : Int))) → ((-2147483648 ≤ zk + ((1 : Int)) ∧ zk + ((1 : Int)) ≤ 2147483647)) ∧ (∀ h1, ab_Sh sx_sk h1 → ab_Fr [] h h1 → me_E (d + 1) 233 116 [some (.inr (.inr 109)), some (.inl (zk)), some (.inl (zw)), some (.inl (zk + ((1 : Int))))] [] h1 Q)) (k1 : (((2 : Int)) ≤ zw) → (zw = ((2 : Int))) → (∀ h1, ab_Sh sx_sk h1 → ab_Fr [] h h1 → me_E (d + 1) 233 86 [some (.inr (.inr 109)), some (.inl (zk)), some (.inl (zw)), some (.inl (zk))] [] h1 Q)) (k2 : (zw < ((2 : Int))) → (zw ≠ ((0 : Int))) → ((0 ≤ zk ∧ zk < 100) ∧ (0 ≤ (mi_a h 157 (Int.toNat zk)) ∧ (mi_a h 157 (Int.toNat zk)) < 100)) ∧ (∀ h1, ab_Sh sx_sk h1 → ab_Fr [] h h1 → Q (some (.inr (.inl (mx_b h 162 (Int.toNat (mi_a h 157 (Int.toNat zk))))))) h1)) (k3 : (zw < ((2 : Int))) → (zw = ((0 : Int))) → ((0 ≤ zk ∧ zk < 100) ∧ (0 ≤ (mi_a h 157 (Int.toNat zk)) ∧ (mi_a h 157 (Int.toNat zk)) < 100)) ∧ (∀ h1, ab_Sh sx_sk h1 → ab_Fr [] h h1 → Q (some (.inr (.inl ((Int32.ofInt (mi_a h 155 (Int.toNat (mi_a h 157 (Int.toNat zk))))).toInt64)))) h1)) : me_E (d + 1) 233 43 [some (.inr (.inr 109)), some (.inl (zk)), some (.inl (zw)), none] [] h Q := Or.elim (mi_em .ge (zw) (((2 : Int)))) (fun c0 => Or.elim (mi_em .ne (zw) (((2 : Int)))) (fun c1 => ms_xnoB_0 hS ok_zk ok_zw ⟨c0, c1, (k0 c0 c1).1⟩ (fun h1 W => (k0 c0 c1).2 h1 W.1 (W.2.2.2.2.2 _ rfl))) (fun c1 => ms_xnoB_1 hS ok_zk ok_zw ⟨c0, c1⟩ (fun h1 W => (k1 c0 c1) h1 W.1 (W.2.2.2.2.2 _ rfl)))) (fun c0 => Or.elim (mi_em .ne (zw) (((0 : Int)))) (fun c1 => ms_xnoB_2 hS ok_zk ok_zw ⟨c0, c1, (k2 c0 c1).1.1, (k2 c0 c1).1.2⟩ (fun h1 W => (k2 c0 c1).2 h1 W.1 (W.2.2.2.2.2 _ rfl))) (fun c1 => ms_xnoB_3 hS ok_zk ok_zw ⟨c0, c1, (k3 c0 c1).1.1, (k3 c0 c1).1.2⟩ (fun h1 W => (k3 c0 c1).2 h1 W.1 (W.2.2.2.2.2 _ rfl))))
set_option maxRecDepth 20000 in
theorem mp_xnoC_0 (h : sm_H) (d : Nat) (zk zw zj : Int) : mi_path [(233, (4, 2, sb_233)), (234, (2, 1, sb_234))] sx_sk h 4 [1] (d + 1, 233, 86, [some (.inr (.inr 109)), some (.inl (zk)), some (.inl (zw)), some (.inl (zj))], [], [], []) = some ((d + 1, 233, 111, [some (.inr (.inr 109)), some (.inl (zk)), some (.inl (zw)), some (.inl (zj))], [.inr (.inl ((Int32.ofInt zj).toInt64))], [], []), [zj < ((0 : Int))]) := rfl
theorem mi_tab_xnoC_0 : ∀ e ∈ ([(233, (4, 2, sb_233)), (234, (2, 1, sb_234))] : mi_T), sc_P e.1 = some e.2 := mi_tb mi_P233 (mi_tb mi_P234 (mi_tb_e))
set_option maxRecDepth 20000 in
theorem ms_xnoC_0 {h : sm_H} {d : Nat} {Q : Option mi_V → sm_H → Prop} {zk zw zj : Int} (hS : ab_Sh sx_sk h) (ok_zk : mi_in zk) (ok_zw : mi_in zw) (ok_zj : mi_in zj) (ho : (zj < ((0 : Int)))) (kon : ∀ h1, me_W [] h h1 → Q (some (.inr (.inl ((Int32.ofInt zj).toInt64)))) h1) : me_E (d + 1) 233 86 [some (.inr (.inr 109)), some (.inl (zk)), some (.inl (zw)), some (.inl (zj))] [] h Q := me_seg (mp_xnoC_0 h d zk zw zj) (mi_tab_xnoC_0) hS (mi_okL_c (trivial) (mi_okL_c (ok_zk) (mi_okL_c (ok_zw) (mi_okL_c (ok_zj) (mi_okL_e))))) (mi_okS_e) (mi_al (ho) (mi_al_e)) (fun h1 W _ hst => me_ret (M := (4, 2, sb_233)) rfl rfl rfl hst (mi_al_e) (kon h1 W))
set_option maxRecDepth 20000 in
theorem mp_xnoC_1 (h : sm_H) (d : Nat) (zk zw zj : Int) : mi_path [(233, (4, 2, sb_233)), (234, (2, 1, sb_234))] sx_sk h 27 [0, 1] (d + 1, 233, 86, [some (.inr (.inr 109)), some (.inl (zk)), some (.inl (zw)), some (.inl (zj))], [], [], []) = some ((d + 1, 233, 111, [some (.inr (.inr 109)), some (.inl (zk)), some (.inl (zw)), some (.inl (zj))], [.inr (.inl ((Int32.ofInt zj).toInt64))], [], []), [((0 : Int)) ≤ zj, 0 ≤ zj ∧ zj < 100, 0 ≤ (mi_a h 157 (Int.toNat zj)) ∧ (mi_a h 157 (Int.toNat zj)) < 100, 0 ≤ zk ∧ zk < 100, 0 ≤ (mi_a h 157 (Int.toNat zk)) ∧ (mi_a h 157 (Int.toNat zk)) < 100, (mi_a h 156 (Int.toNat (mi_a h 157 (Int.toNat zj)))) < (mi_a h 156 (Int.toNat (mi_a h 157 (Int.toNat zk))))]) := rfl
theorem mi_tab_xnoC_1 : ∀ e ∈ ([(233, (4, 2, sb_233)), (234, (2, 1, sb_234))] : mi_T), sc_P e.1 = some e.2 := mi_tb mi_P233 (mi_tb mi_P234 (mi_tb_e))
set_option maxRecDepth 20000 in
theorem ms_xnoC_1 {h : sm_H} {d : Nat} {Q : Option mi_V → sm_H → Prop} {zk zw zj : Int} (hS : ab_Sh sx_sk h) (ok_zk : mi_in zk) (ok_zw : mi_in zw) (ok_zj : mi_in zj) (ho : (((0 : Int)) ≤ zj) ∧ (0 ≤ zj ∧ zj < 100) ∧ (0 ≤ (mi_a h 157 (Int.toNat zj)) ∧ (mi_a h 157 (Int.toNat zj)) < 100) ∧ (0 ≤ zk ∧ zk < 100) ∧ (0 ≤ (mi_a h 157 (Int.toNat zk)) ∧ (mi_a h 157 (Int.toNat zk)) < 100) ∧ ((mi_a h 156 (Int.toNat (mi_a h 157 (Int.toNat zj)))) < (mi_a h 156 (Int.toNat (mi_a h 157 (Int.toNat zk)))))) (kon : ∀ h1, me_W [] h h1 → Q (some (.inr (.inl ((Int32.ofInt zj).toInt64)))) h1) : me_E (d + 1) 233 86 [some (.inr (.inr 109)), some (.inl (zk)), some (.inl (zw)), some (.inl (zj))] [] h Q := me_seg (mp_xnoC_1 h d zk zw zj) (mi_tab_xnoC_1) hS (mi_okL_c (trivial) (mi_okL_c (ok_zk) (mi_okL_c (ok_zw) (mi_okL_c (ok_zj) (mi_okL_e))))) (mi_okS_e) (mi_al (ho.1) (mi_al (ho.2.1) (mi_al (ho.2.2.1) (mi_al (ho.2.2.2.1) (mi_al (ho.2.2.2.2.1) (mi_al (ho.2.2.2.2.2) (mi_al_e))))))) (fun h1 W _ hst => me_ret (M := (4, 2, sb_233)) rfl rfl rfl hst (mi_al_e) (kon h1 W))
set_option maxRecDepth 20000 in
theorem mp_xnoC_2 (h : sm_H) (d : Nat) (zk zw zj : Int) : mi_path [(233, (4, 2, sb_233)), (234, (2, 1, sb_234))] sx_sk h 27 [0, 0] (d + 1, 233, 86, [some (.inr (.inr 109)), some (.inl (zk)), some (.inl (zw)), some (.inl (zj))], [], [], []) = some ((d + 1, 233, 86, [some (.inr (.inr 109)), some (.inl (zk)), some (.inl (zw)), some (.inl (zj + (-1)))], [], [], []), [((0 : Int)) ≤ zj, 0 ≤ zj ∧ zj < 100, 0 ≤ (mi_a h 157 (Int.toNat zj)) ∧ (mi_a h 157 (Int.toNat zj)) < 100, 0 ≤ zk ∧ zk < 100, 0 ≤ (mi_a h 157 (Int.toNat zk)) ∧ (mi_a h 157 (Int.toNat zk)) < 100, (mi_a h 156 (Int.toNat (mi_a h 157 (Int.toNat zk)))) ≤ (mi_a h 156 (Int.toNat (mi_a h 157 (Int.toNat zj)))), -2147483648 ≤ zj + (-1) ∧ zj + (-1) ≤ 2147483647]) := rfl
theorem mi_tab_xnoC_2 : ∀ e ∈ ([(233, (4, 2, sb_233)), (234, (2, 1, sb_234))] : mi_T), sc_P e.1 = some e.2 := mi_tb mi_P233 (mi_tb mi_P234 (mi_tb_e))
set_option maxRecDepth 20000 in
theorem ms_xnoC_2 {h : sm_H} {d : Nat} {Q : Option mi_V → sm_H → Prop} {zk zw zj : Int} (hS : ab_Sh sx_sk h) (ok_zk : mi_in zk) (ok_zw : mi_in zw) (ok_zj : mi_in zj) (ho : (((0 : Int)) ≤ zj) ∧ (0 ≤ zj ∧ zj < 100) ∧ (0 ≤ (mi_a h 157 (Int.toNat zj)) ∧ (mi_a h 157 (Int.toNat zj)) < 100) ∧ (0 ≤ zk ∧ zk < 100) ∧ (0 ≤ (mi_a h 157 (Int.toNat zk)) ∧ (mi_a h 157 (Int.toNat zk)) < 100) ∧ ((mi_a h 156 (Int.toNat (mi_a h 157 (Int.toNat zk)))) ≤ (mi_a h 156 (Int.toNat (mi_a h 157 (Int.toNat zj))))) ∧ (-2147483648 ≤ zj + (-1) ∧ zj + (-1) ≤ 2147483647)) (kon : ∀ h1, me_W [] h h1 → me_E (d + 1) 233 86 [some (.inr (.inr 109)), some (.inl (zk)), some (.inl (zw)), some (.inl (zj + (-1)))] [] h1 Q) : me_E (d + 1) 233 86 [some (.inr (.inr 109)), some (.inl (zk)), some (.inl (zw)), some (.inl (zj))] [] h Q := me_seg (mp_xnoC_2 h d zk zw zj) (mi_tab_xnoC_2) hS (mi_okL_c (trivial) (mi_okL_c (ok_zk) (mi_okL_c (ok_zw) (mi_okL_c (ok_zj) (mi_okL_e))))) (mi_okS_e) (mi_al (ho.1) (mi_al (ho.2.1) (mi_al (ho.2.2.1) (mi_al (ho.2.2.2.1) (mi_al (ho.2.2.2.2.1) (mi_al (ho.2.2.2.2.2.1) (mi_al (ho.2.2.2.2.2.2) (mi_al_e)))))))) (fun h1 W _ hst => kon h1 W)
set_option maxRecDepth 20000 in
theorem mt_xnoC {h : sm_H} {d : Nat} {Q : Option mi_V → sm_H → Prop} {zk zw zj : Int} (hS : ab_Sh sx_sk h) (ok_zk : mi_in zk) (ok_zw : mi_in zw) (ok_zj : mi_in zj) (k0 : (zj < ((0 : Int))) → (∀ h1, ab_Sh sx_sk h1 → ab_Fr [] h h1 → Q (some (.inr (.inl ((Int32.ofInt zj).toInt64)))) h1)) (k1 : (((0 : Int)) ≤ zj) → ((mi_a h 156 (Int.toNat (mi_a h 157 (Int.toNat zj)))) < (mi_a h 156 (Int.toNat (mi_a h 157 (Int.toNat zk))))) → ((0 ≤ zj ∧ zj < 100) ∧ (0 ≤ (mi_a h 157 (Int.toNat zj)) ∧ (mi_a h 157 (Int.toNat zj)) < 100) ∧ (0 ≤ zk ∧ zk < 100) ∧ (0 ≤ (mi_a h 157 (Int.toNat zk)) ∧ (mi_a h 157 (Int.toNat zk)) < 100)) ∧ (∀ h1, ab_Sh sx_sk h1 → ab_Fr [] h h1 → Q (some (.inr (.inl ((Int32.ofInt zj).toInt64)))) h1)) (k2 : (((0 : Int)) ≤ zj) → ((mi_a h 156 (Int.toNat (mi_a h 157 (Int.toNat zk)))) ≤ (mi_a h 156 (Int.toNat (mi_a h 157 (Int.toNat zj))))) → ((0 ≤ zj ∧ zj < 100) ∧ (0 ≤ (mi_a h 157 (Int.toNat zj)) ∧ (mi_a h 157 (Int.toNat zj)) < 100) ∧ (0 ≤ zk ∧ zk < 100) ∧ (0 ≤ (mi_a h 157 (Int.toNat zk)) ∧ (mi_a h 157 (Int.toNat zk)) < 100) ∧ (-2147483648 ≤ zj + (-1) ∧ zj + (-1) ≤ 2147483647)) ∧ (∀ h1, ab_Sh sx_sk h1 → ab_Fr [] h h1 → me_E (d + 1) 233 86 [some (.inr (.inr 109)), some (.inl (zk)), some (.inl (zw)), some (.inl (zj + (-1)))] [] h1 Q)) : me_E (d + 1) 233 86 [some (.inr (.inr 109)), some (.inl (zk)), some (.inl (zw)), some (.inl (zj))] [] h Q := Or.elim (mi_em .lt (zj) (((0 : Int)))) (fun c0 => ms_xnoC_0 hS ok_zk ok_zw ok_zj (c0) (fun h1 W => (k0 c0) h1 W.1 (W.2.2.2.2.2 _ rfl))) (fun c0 => Or.elim (mi_em .lt ((mi_a h 156 (Int.toNat (mi_a h 157 (Int.toNat zj))))) ((mi_a h 156 (Int.toNat (mi_a h 157 (Int.toNat zk)))))) (fun c1 => ms_xnoC_1 hS ok_zk ok_zw ok_zj ⟨c0, (k1 c0 c1).1.1, (k1 c0 c1).1.2.1, (k1 c0 c1).1.2.2.1, (k1 c0 c1).1.2.2.2, c1⟩ (fun h1 W => (k1 c0 c1).2 h1 W.1 (W.2.2.2.2.2 _ rfl))) (fun c1 => ms_xnoC_2 hS ok_zk ok_zw ok_zj ⟨c0, (k2 c0 c1).1.1, (k2 c0 c1).1.2.1, (k2 c0 c1).1.2.2.1, (k2 c0 c1).1.2.2.2.1, c1, (k2 c0 c1).1.2.2.2.2⟩ (fun h1 W => (k2 c0 c1).2 h1 W.1 (W.2.2.2.2.2 _ rfl))))
set_option maxRecDepth 20000 in
theorem mp_xnoD_0 (h : sm_H) (d : Nat) (zk zw zj : Int) : mi_path [(233, (4, 2, sb_233)), (234, (2, 1, sb_234))] sx_sk h 10 [1, 8, 8] (d + 1, 233, 116, [some (.inr (.inr 109)), some (.inl (zk)), some (.inl (zw)), some (.inl (zj))], [], [], []) = some ((d + 1, 233, 149, [some (.inr (.inr 109)), some (.inl (zk)), some (.inl (zw)), some (.inl (zj))], [.inr (.inl ((Int32.ofInt ((zj - zk) - ((1 : Int)))).toInt64))], [], []), [(mi_f h 14015) ≤ zj, -2147483648 ≤ zj - zk ∧ zj - zk ≤ 2147483647, -2147483648 ≤ (zj - zk) - ((1 : Int)) ∧ (zj - zk) - ((1 : Int)) ≤ 2147483647]) := rfl
theorem mi_tab_xnoD_0 : ∀ e ∈ ([(233, (4, 2, sb_233)), (234, (2, 1, sb_234))] : mi_T), sc_P e.1 = some e.2 := mi_tb mi_P233 (mi_tb mi_P234 (mi_tb_e))
set_option maxRecDepth 20000 in
theorem ms_xnoD_0 {h : sm_H} {d : Nat} {Q : Option mi_V → sm_H → Prop} {zk zw zj : Int} (hS : ab_Sh sx_sk h) (ok_zk : mi_in zk) (ok_zw : mi_in zw) (ok_zj : mi_in zj) (ho : ((mi_f h 14015) ≤ zj) ∧ (-2147483648 ≤ zj - zk ∧ zj - zk ≤ 2147483647) ∧ (-2147483648 ≤ (zj - zk) - ((1 : Int)) ∧ (zj - zk) - ((1 : Int)) ≤ 2147483647)) (kon : ∀ h1, me_W [] h h1 → Q (some (.inr (.inl ((Int32.ofInt ((zj - zk) - ((1 : Int)))).toInt64)))) h1) : me_E (d + 1) 233 116 [some (.inr (.inr 109)), some (.inl (zk)), some (.inl (zw)), some (.inl (zj))] [] h Q := me_seg (mp_xnoD_0 h d zk zw zj) (mi_tab_xnoD_0) hS (mi_okL_c (trivial) (mi_okL_c (ok_zk) (mi_okL_c (ok_zw) (mi_okL_c (ok_zj) (mi_okL_e))))) (mi_okS_e) (mi_al (ho.1) (mi_al (ho.2.1) (mi_al (ho.2.2) (mi_al_e)))) (fun h1 W _ hst => me_ret (M := (4, 2, sb_233)) rfl rfl rfl hst (mi_al_e) (kon h1 W))
set_option maxRecDepth 20000 in
theorem mp_xnoD_1 (h : sm_H) (d : Nat) (zk zw zj : Int) : mi_path [(233, (4, 2, sb_233)), (234, (2, 1, sb_234))] sx_sk h 33 [0, 1, 8, 8] (d + 1, 233, 116, [some (.inr (.inr 109)), some (.inl (zk)), some (.inl (zw)), some (.inl (zj))], [], [], []) = some ((d + 1, 233, 149, [some (.inr (.inr 109)), some (.inl (zk)), some (.inl (zw)), some (.inl (zj))], [.inr (.inl ((Int32.ofInt ((zj - zk) - ((1 : Int)))).toInt64))], [], []), [zj < (mi_f h 14015), 0 ≤ zj ∧ zj < 100, 0 ≤ (mi_a h 157 (Int.toNat zj)) ∧ (mi_a h 157 (Int.toNat zj)) < 100, 0 ≤ zk ∧ zk < 100, 0 ≤ (mi_a h 157 (Int.toNat zk)) ∧ (mi_a h 157 (Int.toNat zk)) < 100, (mi_a h 156 (Int.toNat (mi_a h 157 (Int.toNat zj)))) ≤ (mi_a h 156 (Int.toNat (mi_a h 157 (Int.toNat zk)))), -2147483648 ≤ zj - zk ∧ zj - zk ≤ 2147483647, -2147483648 ≤ (zj - zk) - ((1 : Int)) ∧ (zj - zk) - ((1 : Int)) ≤ 2147483647]) := rfl
theorem mi_tab_xnoD_1 : ∀ e ∈ ([(233, (4, 2, sb_233)), (234, (2, 1, sb_234))] : mi_T), sc_P e.1 = some e.2 := mi_tb mi_P233 (mi_tb mi_P234 (mi_tb_e))
set_option maxRecDepth 20000 in
theorem ms_xnoD_1 {h : sm_H} {d : Nat} {Q : Option mi_V → sm_H → Prop} {zk zw zj : Int} (hS : ab_Sh sx_sk h) (ok_zk : mi_in zk) (ok_zw : mi_in zw) (ok_zj : mi_in zj) (ho : (zj < (mi_f h 14015)) ∧ (0 ≤ zj ∧ zj < 100) ∧ (0 ≤ (mi_a h 157 (Int.toNat zj)) ∧ (mi_a h 157 (Int.toNat zj)) < 100) ∧ (0 ≤ zk ∧ zk < 100) ∧ (0 ≤ (mi_a h 157 (Int.toNat zk)) ∧ (mi_a h 157 (Int.toNat zk)) < 100) ∧ ((mi_a h 156 (Int.toNat (mi_a h 157 (Int.toNat zj)))) ≤ (mi_a h 156 (Int.toNat (mi_a h 157 (Int.toNat zk))))) ∧ (-2147483648 ≤ zj - zk ∧ zj - zk ≤ 2147483647) ∧ (-2147483648 ≤ (zj - zk) - ((1 : Int)) ∧ (zj - zk) - ((1 : Int)) ≤ 2147483647)) (kon : ∀ h1, me_W [] h h1 → Q (some (.inr (.inl ((Int32.ofInt ((zj - zk) - ((1 : Int)))).toInt64)))) h1) : me_E (d + 1) 233 116 [some (.inr (.inr 109)), some (.inl (zk)), some (.inl (zw)), some (.inl (zj))] [] h Q := me_seg (mp_xnoD_1 h d zk zw zj) (mi_tab_xnoD_1) hS (mi_okL_c (trivial) (mi_okL_c (ok_zk) (mi_okL_c (ok_zw) (mi_okL_c (ok_zj) (mi_okL_e))))) (mi_okS_e) (mi_al (ho.1) (mi_al (ho.2.1) (mi_al (ho.2.2.1) (mi_al (ho.2.2.2.1) (mi_al (ho.2.2.2.2.1) (mi_al (ho.2.2.2.2.2.1) (mi_al (ho.2.2.2.2.2.2.1) (mi_al (ho.2.2.2.2.2.2.2) (mi_al_e))))))))) (fun h1 W _ hst => me_ret (M := (4, 2, sb_233)) rfl rfl rfl hst (mi_al_e) (kon h1 W))
set_option maxRecDepth 20000 in
theorem mp_xnoD_2 (h : sm_H) (d : Nat) (zk zw zj : Int) : mi_path [(233, (4, 2, sb_233)), (234, (2, 1, sb_234))] sx_sk h 29 [0, 0] (d + 1, 233, 116, [some (.inr (.inr 109)), some (.inl (zk)), some (.inl (zw)), some (.inl (zj))], [], [], []) = some ((d + 1, 233, 116, [some (.inr (.inr 109)), some (.inl (zk)), some (.inl (zw)), some (.inl (zj + 1))], [], [], []), [zj < (mi_f h 14015), 0 ≤ zj ∧ zj < 100, 0 ≤ (mi_a h 157 (Int.toNat zj)) ∧ (mi_a h 157 (Int.toNat zj)) < 100, 0 ≤ zk ∧ zk < 100, 0 ≤ (mi_a h 157 (Int.toNat zk)) ∧ (mi_a h 157 (Int.toNat zk)) < 100, (mi_a h 156 (Int.toNat (mi_a h 157 (Int.toNat zk)))) < (mi_a h 156 (Int.toNat (mi_a h 157 (Int.toNat zj)))), -2147483648 ≤ zj + 1 ∧ zj + 1 ≤ 2147483647]) := rfl
theorem mi_tab_xnoD_2 : ∀ e ∈ ([(233, (4, 2, sb_233)), (234, (2, 1, sb_234))] : mi_T), sc_P e.1 = some e.2 := mi_tb mi_P233 (mi_tb mi_P234 (mi_tb_e))
set_option maxRecDepth 20000 in
theorem ms_xnoD_2 {h : sm_H} {d : Nat} {Q : Option mi_V → sm_H → Prop} {zk zw zj : Int} (hS : ab_Sh sx_sk h) (ok_zk : mi_in zk) (ok_zw : mi_in zw) (ok_zj : mi_in zj) (ho : (zj < (mi_f h 14015)) ∧ (0 ≤ zj ∧ zj < 100) ∧ (0 ≤ (mi_a h 157 (Int.toNat zj)) ∧ (mi_a h 157 (Int.toNat zj)) < 100) ∧ (0 ≤ zk ∧ zk < 100) ∧ (0 ≤ (mi_a h 157 (Int.toNat zk)) ∧ (mi_a h 157 (Int.toNat zk)) < 100) ∧ ((mi_a h 156 (Int.toNat (mi_a h 157 (Int.toNat zk)))) < (mi_a h 156 (Int.toNat (mi_a h 157 (Int.toNat zj))))) ∧ (-2147483648 ≤ zj + 1 ∧ zj + 1 ≤ 2147483647)) (kon : ∀ h1, me_W [] h h1 → me_E (d + 1) 233 116 [some (.inr (.inr 109)), some (.inl (zk)), some (.inl (zw)), some (.inl (zj + 1))] [] h1 Q) : me_E (d + 1) 233 116 [some (.inr (.inr 109)), some (.inl (zk)), some (.inl (zw)), some (.inl (zj))] [] h Q := me_seg (mp_xnoD_2 h d zk zw zj) (mi_tab_xnoD_2) hS (mi_okL_c (trivial) (mi_okL_c (ok_zk) (mi_okL_c (ok_zw) (mi_okL_c (ok_zj) (mi_okL_e))))) (mi_okS_e) (mi_al (ho.1) (mi_al (ho.2.1) (mi_al (ho.2.2.1) (mi_al (ho.2.2.2.1) (mi_al (ho.2.2.2.2.1) (mi_al (ho.2.2.2.2.2.1) (mi_al (ho.2.2.2.2.2.2) (mi_al_e)))))))) (fun h1 W _ hst => kon h1 W)
set_option maxRecDepth 20000 in
theorem mt_xnoD {h : sm_H} {d : Nat} {Q : Option mi_V → sm_H → Prop} {zk zw zj : Int} (hS : ab_Sh sx_sk h) (ok_zk : mi_in zk) (ok_zw : mi_in zw) (ok_zj : mi_in zj) (k0 : (0 ≤ mi_f h 14015 ∧ mi_f h 14015 ≤ 100) → ((mi_f h 14015) ≤ zj) → ((-2147483648 ≤ zj - zk ∧ zj - zk ≤ 2147483647) ∧ (-2147483648 ≤ (zj - zk) - ((1 : Int)) ∧ (zj - zk) - ((1 : Int)) ≤ 2147483647)) ∧ (∀ h1, ab_Sh sx_sk h1 → ab_Fr [] h h1 → Q (some (.inr (.inl ((Int32.ofInt ((zj - zk) - ((1 : Int)))).toInt64)))) h1)) (k1 : (0 ≤ mi_f h 14015 ∧ mi_f h 14015 ≤ 100) → (zj < (mi_f h 14015)) → ((mi_a h 156 (Int.toNat (mi_a h 157 (Int.toNat zj)))) ≤ (mi_a h 156 (Int.toNat (mi_a h 157 (Int.toNat zk))))) → ((0 ≤ zj ∧ zj < 100) ∧ (0 ≤ (mi_a h 157 (Int.toNat zj)) ∧ (mi_a h 157 (Int.toNat zj)) < 100) ∧ (0 ≤ zk ∧ zk < 100) ∧ (0 ≤ (mi_a h 157 (Int.toNat zk)) ∧ (mi_a h 157 (Int.toNat zk)) < 100) ∧ (-2147483648 ≤ zj - zk ∧ zj - zk ≤ 2147483647) ∧ (-2147483648 ≤ (zj - zk) - ((1 : Int)) ∧ (zj - zk) - ((1 : Int)) ≤ 2147483647)) ∧ (∀ h1, ab_Sh sx_sk h1 → ab_Fr [] h h1 → Q (some (.inr (.inl ((Int32.ofInt ((zj - zk) - ((1 : Int)))).toInt64)))) h1)) (k2 : (0 ≤ mi_f h 14015 ∧ mi_f h 14015 ≤ 100) → (zj < (mi_f h 14015)) → ((mi_a h 156 (Int.toNat (mi_a h 157 (Int.toNat zk)))) < (mi_a h 156 (Int.toNat (mi_a h 157 (Int.toNat zj))))) → ((0 ≤ zj ∧ zj < 100) ∧ (0 ≤ (mi_a h 157 (Int.toNat zj)) ∧ (mi_a h 157 (Int.toNat zj)) < 100) ∧ (0 ≤ zk ∧ zk < 100) ∧ (0 ≤ (mi_a h 157 (Int.toNat zk)) ∧ (mi_a h 157 (Int.toNat zk)) < 100) ∧ (-2147483648 ≤ zj + 1 ∧ zj + 1 ≤ 2147483647)) ∧ (∀ h1, ab_Sh sx_sk h1 → ab_Fr [] h h1 → me_E (d + 1) 233 116 [some (.inr (.inr 109)), some (.inl (zk)), some (.inl (zw)), some (.inl (zj + 1))] [] h1 Q)) : me_E (d + 1) 233 116 [some (.inr (.inr 109)), some (.inl (zk)), some (.inl (zw)), some (.inl (zj))] [] h Q := Or.elim (mi_em .ge (zj) ((mi_f h 14015))) (fun c0 => ms_xnoD_0 hS ok_zk ok_zw ok_zj ⟨c0, (k0 (me_fb hS rfl) c0).1.1, (k0 (me_fb hS rfl) c0).1.2⟩ (fun h1 W => (k0 (me_fb hS rfl) c0).2 h1 W.1 (W.2.2.2.2.2 _ rfl))) (fun c0 => Or.elim (mi_em .le ((mi_a h 156 (Int.toNat (mi_a h 157 (Int.toNat zj))))) ((mi_a h 156 (Int.toNat (mi_a h 157 (Int.toNat zk)))))) (fun c1 => ms_xnoD_1 hS ok_zk ok_zw ok_zj ⟨c0, (k1 (me_fb hS rfl) c0 c1).1.1, (k1 (me_fb hS rfl) c0 c1).1.2.1, (k1 (me_fb hS rfl) c0 c1).1.2.2.1, (k1 (me_fb hS rfl) c0 c1).1.2.2.2.1, c1, (k1 (me_fb hS rfl) c0 c1).1.2.2.2.2.1, (k1 (me_fb hS rfl) c0 c1).1.2.2.2.2.2⟩ (fun h1 W => (k1 (me_fb hS rfl) c0 c1).2 h1 W.1 (W.2.2.2.2.2 _ rfl))) (fun c1 => ms_xnoD_2 hS ok_zk ok_zw ok_zj ⟨c0, (k2 (me_fb hS rfl) c0 c1).1.1, (k2 (me_fb hS rfl) c0 c1).1.2.1, (k2 (me_fb hS rfl) c0 c1).1.2.2.1, (k2 (me_fb hS rfl) c0 c1).1.2.2.2.1, c1, (k2 (me_fb hS rfl) c0 c1).1.2.2.2.2⟩ (fun h1 W => (k2 (me_fb hS rfl) c0 c1).2 h1 W.1 (W.2.2.2.2.2 _ rfl))))
set_option maxRecDepth 20000 in
theorem mp_xcaA_0 (h : sm_H) (d : Nat) : mi_path [(238, (2, 1, sb_238))] sx_sk h 5 [] (d, 238, 0, [some (.inr (.inr 109)), none], [], [], []) = some ((d, 238, 7, [some (.inr (.inr 109)), some (.inl ((0 : Int)))], [], [.inl (13952, (0 : Int))], []), []) := rfl
theorem mi_tab_xcaA_0 : ∀ e ∈ ([(238, (2, 1, sb_238))] : mi_T), sc_P e.1 = some e.2 := mi_tb mi_P238 (mi_tb_e)
set_option maxRecDepth 20000 in
theorem ms_xcaA_0 {h : sm_H} {d : Nat} {Q : Option mi_V → sm_H → Prop} (hS : ab_Sh sx_sk h)  (kon : ∀ h1, me_W [.inl (13952, (0 : Int))] h h1 → me_E (d) 238 7 [some (.inr (.inr 109)), some (.inl ((0 : Int)))] [] h1 Q) : me_E (d) 238 0 [some (.inr (.inr 109)), none] [] h Q := me_seg (mp_xcaA_0 h d ) (mi_tab_xcaA_0) hS (mi_okL_c (trivial) (mi_okL_n (mi_okL_e))) (mi_okS_e) (mi_al_e) (fun h1 W _ hst => kon h1 W)
set_option maxRecDepth 20000 in
theorem mt_xcaA {h : sm_H} {d : Nat} {Q : Option mi_V → sm_H → Prop} (hS : ab_Sh sx_sk h)  (k0 : (∀ h1, ab_Sh sx_sk h1 → mi_f h1 13952 = (0 : Int) → ab_Fr [(13952, 13953)] h h1 → me_E (d) 238 7 [some (.inr (.inr 109)), some (.inl ((0 : Int)))] [] h1 Q)) : me_E (d) 238 0 [some (.inr (.inr 109)), none] [] h Q := ms_xcaA_0 hS (fun h1 W => (k0) h1 W.1 (W.2.1 13952) (W.2.2.2.2.2 _ rfl))
set_option maxRecDepth 20000 in
theorem mp_xcaB_0 (h : sm_H) (d : Nat) (zk : Int) : mi_path [(238, (2, 1, sb_238))] sx_sk h 10 [1] (d, 238, 7, [some (.inr (.inr 109)), some (.inl (zk))], [], [], []) = some ((d, 238, 45, [some (.inr (.inr 109)), some (.inl (zk))], [.inl (mi_f h 13955)], [.inl (13954, mi_f h 13955)], []), [(mi_f h 13955) ≤ zk, 0 ≤ (mi_f h 13955) ∧ (mi_f h 13955) ≤ 160]) := rfl
theorem mi_tab_xcaB_0 : ∀ e ∈ ([(238, (2, 1, sb_238))] : mi_T), sc_P e.1 = some e.2 := mi_tb mi_P238 (mi_tb_e)
set_option maxRecDepth 20000 in
theorem ms_xcaB_0 {h : sm_H} {d : Nat} {Q : Option mi_V → sm_H → Prop} {zk : Int} (hS : ab_Sh sx_sk h) (ok_zk : mi_in zk) (ho : ((mi_f h 13955) ≤ zk) ∧ (0 ≤ (mi_f h 13955) ∧ (mi_f h 13955) ≤ 160)) (kon : ∀ h1, me_W [.inl (13954, mi_f h 13955)] h h1 → Q (some (.inl (mi_f h 13955))) h1) : me_E (d) 238 7 [some (.inr (.inr 109)), some (.inl (zk))] [] h Q := me_seg (mp_xcaB_0 h d zk) (mi_tab_xcaB_0) hS (mi_okL_c (trivial) (mi_okL_c (ok_zk) (mi_okL_e))) (mi_okS_e) (mi_al (ho.1) (mi_al (ho.2) (mi_al_e))) (fun h1 W _ hst => me_ret (M := (2, 1, sb_238)) rfl rfl rfl hst (mi_al_e) (kon h1 W))
set_option maxRecDepth 20000 in
theorem mp_xcaB_1 (h : sm_H) (d : Nat) (zk : Int) : mi_path [(238, (2, 1, sb_238))] sx_sk h 14 [0] (d, 238, 7, [some (.inr (.inr 109)), some (.inl (zk))], [], [], []) = some ((d, 238, 7, [some (.inr (.inr 109)), some (.inl (zk + 1))], [], [.inr (.inr (.inl (111, Int.toNat zk, mi_a h 112 (Int.toNat zk))))], []), [zk < (mi_f h 13955), 0 ≤ zk ∧ zk < 160, 0 ≤ zk ∧ zk < 160, -2147483648 ≤ zk + 1 ∧ zk + 1 ≤ 2147483647]) := rfl
theorem mi_tab_xcaB_1 : ∀ e ∈ ([(238, (2, 1, sb_238))] : mi_T), sc_P e.1 = some e.2 := mi_tb mi_P238 (mi_tb_e)
set_option maxRecDepth 20000 in
theorem ms_xcaB_1 {h : sm_H} {d : Nat} {Q : Option mi_V → sm_H → Prop} {zk : Int} (hS : ab_Sh sx_sk h) (ok_zk : mi_in zk) (ho : (zk < (mi_f h 13955)) ∧ (0 ≤ zk ∧ zk < 160) ∧ (0 ≤ zk ∧ zk < 160) ∧ (-2147483648 ≤ zk + 1 ∧ zk + 1 ≤ 2147483647)) (kon : ∀ h1, me_W [.inr (.inr (.inl (111, Int.toNat zk, mi_a h 112 (Int.toNat zk))))] h h1 → me_E (d) 238 7 [some (.inr (.inr 109)), some (.inl (zk + 1))] [] h1 Q) : me_E (d) 238 7 [some (.inr (.inr 109)), some (.inl (zk))] [] h Q := me_seg (mp_xcaB_1 h d zk) (mi_tab_xcaB_1) hS (mi_okL_c (trivial) (mi_okL_c (ok_zk) (mi_okL_e))) (mi_okS_e) (mi_al (ho.1) (mi_al (ho.2.1) (mi_al (ho.2.2.1) (mi_al (ho.2.2.2) (mi_al_e))))) (fun h1 W _ hst => kon h1 W)
set_option maxRecDepth 20000 in
theorem mt_xcaB {h : sm_H} {d : Nat} {Q : Option mi_V → sm_H → Prop} {zk : Int} (hS : ab_Sh sx_sk h) (ok_zk : mi_in zk) (k0 : (0 ≤ mi_f h 13955 ∧ mi_f h 13955 ≤ 160) → ((mi_f h 13955) ≤ zk) → ((0 ≤ (mi_f h 13955) ∧ (mi_f h 13955) ≤ 160)) ∧ (∀ h1, ab_Sh sx_sk h1 → mi_f h1 13954 = mi_f h 13955 → ab_Fr [(13954, 13955)] h h1 → Q (some (.inl (mi_f h 13955))) h1)) (k1 : (0 ≤ mi_f h 13955 ∧ mi_f h 13955 ≤ 160) → (zk < (mi_f h 13955)) → ((0 ≤ zk ∧ zk < 160) ∧ (-2147483648 ≤ zk + 1 ∧ zk + 1 ≤ 2147483647)) ∧ (∀ h1, ab_Sh sx_sk h1 → (∀ i, mi_a h1 111 i = if i = Int.toNat zk then mi_a h 112 (Int.toNat zk) else (mi_a h 111 i)) → ab_Fr [(14208, 14209)] h h1 → me_E (d) 238 7 [some (.inr (.inr 109)), some (.inl (zk + 1))] [] h1 Q)) : me_E (d) 238 7 [some (.inr (.inr 109)), some (.inl (zk))] [] h Q := Or.elim (mi_em .ge (zk) ((mi_f h 13955))) (fun c0 => ms_xcaB_0 hS ok_zk ⟨c0, (k0 (me_fb hS rfl) c0).1⟩ (fun h1 W => (k0 (me_fb hS rfl) c0).2 h1 W.1 (W.2.1 13954) (W.2.2.2.2.2 _ rfl))) (fun c0 => ms_xcaB_1 hS ok_zk ⟨c0, (k1 (me_fb hS rfl) c0).1.1, (k1 (me_fb hS rfl) c0).1.1, (k1 (me_fb hS rfl) c0).1.2⟩ (fun h1 W => (k1 (me_fb hS rfl) c0).2 h1 W.1 (fun i => W.2.2.1 111 i) (W.2.2.2.2.2 _ rfl)))
set_option maxRecDepth 20000 in
theorem mp_xkeA_0 (h : sm_H) (d : Nat) : mi_path [(239, (2, 4, sb_239))] sx_sk h 8 [1] (d, 239, 0, [some (.inr (.inr 109)), none], [], [], []) = some ((d, 239, 16, [some (.inr (.inr 109)), some (.inl ((0 : Int)))], [], [.inl (13952, (0 : Int))], []), [(mi_f h 14015) ≠ ((0 : Int))]) := rfl
theorem mi_tab_xkeA_0 : ∀ e ∈ ([(239, (2, 4, sb_239))] : mi_T), sc_P e.1 = some e.2 := mi_tb mi_P239 (mi_tb_e)
set_option maxRecDepth 20000 in
theorem ms_xkeA_0 {h : sm_H} {d : Nat} {Q : Option mi_V → sm_H → Prop} (hS : ab_Sh sx_sk h)  (ho : ((mi_f h 14015) ≠ ((0 : Int)))) (kon : ∀ h1, me_W [.inl (13952, (0 : Int))] h h1 → me_E (d) 239 16 [some (.inr (.inr 109)), some (.inl ((0 : Int)))] [] h1 Q) : me_E (d) 239 0 [some (.inr (.inr 109)), none] [] h Q := me_seg (mp_xkeA_0 h d ) (mi_tab_xkeA_0) hS (mi_okL_c (trivial) (mi_okL_n (mi_okL_e))) (mi_okS_e) (mi_al (ho) (mi_al_e)) (fun h1 W _ hst => kon h1 W)
set_option maxRecDepth 20000 in
theorem mp_xkeA_1 (h : sm_H) (d : Nat) : mi_path [(239, (2, 4, sb_239))] sx_sk h 7 [0] (d, 239, 0, [some (.inr (.inr 109)), none], [], [], []) = some ((d, 239, 13, [some (.inr (.inr 109)), none], [.inl ((0 : Int))], [.inl (13952, (0 : Int))], []), [(mi_f h 14015) = ((0 : Int))]) := rfl
theorem mi_tab_xkeA_1 : ∀ e ∈ ([(239, (2, 4, sb_239))] : mi_T), sc_P e.1 = some e.2 := mi_tb mi_P239 (mi_tb_e)
set_option maxRecDepth 20000 in
theorem ms_xkeA_1 {h : sm_H} {d : Nat} {Q : Option mi_V → sm_H → Prop} (hS : ab_Sh sx_sk h)  (ho : ((mi_f h 14015) = ((0 : Int))) ∧ (((0 : Int)) = 0 ∨ ((0 : Int)) = 1)) (kon : ∀ h1, me_W [.inl (13952, (0 : Int))] h h1 → Q (some (.inl ((0 : Int)))) h1) : me_E (d) 239 0 [some (.inr (.inr 109)), none] [] h Q := me_seg (mp_xkeA_1 h d ) (mi_tab_xkeA_1) hS (mi_okL_c (trivial) (mi_okL_n (mi_okL_e))) (mi_okS_e) (mi_al (ho.1) (mi_al_e)) (fun h1 W _ hst => me_ret (M := (2, 4, sb_239)) rfl rfl rfl hst (mi_al (ho.2) mi_al_e) (kon h1 W))
set_option maxRecDepth 20000 in
theorem mt_xkeA {h : sm_H} {d : Nat} {Q : Option mi_V → sm_H → Prop} (hS : ab_Sh sx_sk h)  (k0 : (0 ≤ mi_f h 14015 ∧ mi_f h 14015 ≤ 100) → ((mi_f h 14015) ≠ ((0 : Int))) → (∀ h1, ab_Sh sx_sk h1 → mi_f h1 13952 = (0 : Int) → ab_Fr [(13952, 13953)] h h1 → me_E (d) 239 16 [some (.inr (.inr 109)), some (.inl ((0 : Int)))] [] h1 Q)) (k1 : (0 ≤ mi_f h 14015 ∧ mi_f h 14015 ≤ 100) → ((mi_f h 14015) = ((0 : Int))) → (∀ h1, ab_Sh sx_sk h1 → mi_f h1 13952 = (0 : Int) → ab_Fr [(13952, 13953)] h h1 → Q (some (.inl ((0 : Int)))) h1)) : me_E (d) 239 0 [some (.inr (.inr 109)), none] [] h Q := Or.elim (mi_em .ne ((mi_f h 14015)) (((0 : Int)))) (fun c0 => ms_xkeA_0 hS (c0) (fun h1 W => (k0 (me_fb hS rfl) c0) h1 W.1 (W.2.1 13952) (W.2.2.2.2.2 _ rfl))) (fun c0 => ms_xkeA_1 hS ⟨c0, (by decide)⟩ (fun h1 W => (k1 (me_fb hS rfl) c0) h1 W.1 (W.2.1 13952) (W.2.2.2.2.2 _ rfl)))
set_option maxRecDepth 20000 in
theorem mp_xkeB_0 (h : sm_H) (d : Nat) (zk : Int) : mi_path [(239, (2, 4, sb_239))] sx_sk h 9 [1] (d, 239, 16, [some (.inr (.inr 109)), some (.inl (zk))], [], [], []) = some ((d, 239, 73, [some (.inr (.inr 109)), some (.inl (zk))], [.inl ((1 : Int))], [.inl (14017, mi_f h 14015)], []), [(mi_f h 14015) ≤ zk, 0 ≤ (mi_f h 14015) ∧ (mi_f h 14015) ≤ 100]) := rfl
theorem mi_tab_xkeB_0 : ∀ e ∈ ([(239, (2, 4, sb_239))] : mi_T), sc_P e.1 = some e.2 := mi_tb mi_P239 (mi_tb_e)
set_option maxRecDepth 20000 in
theorem ms_xkeB_0 {h : sm_H} {d : Nat} {Q : Option mi_V → sm_H → Prop} {zk : Int} (hS : ab_Sh sx_sk h) (ok_zk : mi_in zk) (ho : ((mi_f h 14015) ≤ zk) ∧ (0 ≤ (mi_f h 14015) ∧ (mi_f h 14015) ≤ 100) ∧ (((1 : Int)) = 0 ∨ ((1 : Int)) = 1)) (kon : ∀ h1, me_W [.inl (14017, mi_f h 14015)] h h1 → Q (some (.inl ((1 : Int)))) h1) : me_E (d) 239 16 [some (.inr (.inr 109)), some (.inl (zk))] [] h Q := me_seg (mp_xkeB_0 h d zk) (mi_tab_xkeB_0) hS (mi_okL_c (trivial) (mi_okL_c (ok_zk) (mi_okL_e))) (mi_okS_e) (mi_al (ho.1) (mi_al (ho.2.1) (mi_al_e))) (fun h1 W _ hst => me_ret (M := (2, 4, sb_239)) rfl rfl rfl hst (mi_al (ho.2.2) mi_al_e) (kon h1 W))
set_option maxRecDepth 20000 in
theorem mp_xkeB_1 (h : sm_H) (d : Nat) (zk : Int) : mi_path [(239, (2, 4, sb_239))] sx_sk h 28 [0] (d, 239, 16, [some (.inr (.inr 109)), some (.inl (zk))], [], [], []) = some ((d, 239, 16, [some (.inr (.inr 109)), some (.inl (zk + 1))], [], [.inr (.inr (.inr (164, Int.toNat zk, mx_b h 162 (Int.toNat (mi_a h 157 (Int.toNat zk)))))), .inr (.inr (.inl (161, Int.toNat zk, mi_a h 155 (Int.toNat (mi_a h 157 (Int.toNat zk))))))], []), [zk < (mi_f h 14015), 0 ≤ zk ∧ zk < 100, 0 ≤ (mi_a h 157 (Int.toNat zk)) ∧ (mi_a h 157 (Int.toNat zk)) < 100, 0 ≤ zk ∧ zk < 100, 0 ≤ zk ∧ zk < 100, 0 ≤ (mi_a h 157 (Int.toNat zk)) ∧ (mi_a h 157 (Int.toNat zk)) < 100, 0 ≤ zk ∧ zk < 100, -2147483648 ≤ zk + 1 ∧ zk + 1 ≤ 2147483647]) := rfl
theorem mi_tab_xkeB_1 : ∀ e ∈ ([(239, (2, 4, sb_239))] : mi_T), sc_P e.1 = some e.2 := mi_tb mi_P239 (mi_tb_e)
set_option maxRecDepth 20000 in
theorem ms_xkeB_1 {h : sm_H} {d : Nat} {Q : Option mi_V → sm_H → Prop} {zk : Int} (hS : ab_Sh sx_sk h) (ok_zk : mi_in zk) (ho : (zk < (mi_f h 14015)) ∧ (0 ≤ zk ∧ zk < 100) ∧ (0 ≤ (mi_a h 157 (Int.toNat zk)) ∧ (mi_a h 157 (Int.toNat zk)) < 100) ∧ (0 ≤ zk ∧ zk < 100) ∧ (0 ≤ zk ∧ zk < 100) ∧ (0 ≤ (mi_a h 157 (Int.toNat zk)) ∧ (mi_a h 157 (Int.toNat zk)) < 100) ∧ (0 ≤ zk ∧ zk < 100) ∧ (-2147483648 ≤ zk + 1 ∧ zk + 1 ≤ 2147483647)) (kon : ∀ h1, me_W [.inr (.inr (.inr (164, Int.toNat zk, mx_b h 162 (Int.toNat (mi_a h 157 (Int.toNat zk)))))), .inr (.inr (.inl (161, Int.toNat zk, mi_a h 155 (Int.toNat (mi_a h 157 (Int.toNat zk))))))] h h1 → me_E (d) 239 16 [some (.inr (.inr 109)), some (.inl (zk + 1))] [] h1 Q) : me_E (d) 239 16 [some (.inr (.inr 109)), some (.inl (zk))] [] h Q := me_seg (mp_xkeB_1 h d zk) (mi_tab_xkeB_1) hS (mi_okL_c (trivial) (mi_okL_c (ok_zk) (mi_okL_e))) (mi_okS_e) (mi_al (ho.1) (mi_al (ho.2.1) (mi_al (ho.2.2.1) (mi_al (ho.2.2.2.1) (mi_al (ho.2.2.2.2.1) (mi_al (ho.2.2.2.2.2.1) (mi_al (ho.2.2.2.2.2.2.1) (mi_al (ho.2.2.2.2.2.2.2) (mi_al_e))))))))) (fun h1 W _ hst => kon h1 W)
set_option maxRecDepth 20000 in
theorem mt_xkeB {h : sm_H} {d : Nat} {Q : Option mi_V → sm_H → Prop} {zk : Int} (hS : ab_Sh sx_sk h) (ok_zk : mi_in zk) (k0 : (0 ≤ mi_f h 14015 ∧ mi_f h 14015 ≤ 100) → ((mi_f h 14015) ≤ zk) → ((0 ≤ (mi_f h 14015) ∧ (mi_f h 14015) ≤ 100)) ∧ (∀ h1, ab_Sh sx_sk h1 → mi_f h1 14017 = mi_f h 14015 → ab_Fr [(14017, 14018)] h h1 → Q (some (.inl ((1 : Int)))) h1)) (k1 : (0 ≤ mi_f h 14015 ∧ mi_f h 14015 ≤ 100) → (zk < (mi_f h 14015)) → ((0 ≤ zk ∧ zk < 100) ∧ (0 ≤ (mi_a h 157 (Int.toNat zk)) ∧ (mi_a h 157 (Int.toNat zk)) < 100) ∧ (-2147483648 ≤ zk + 1 ∧ zk + 1 ≤ 2147483647)) ∧ (∀ h1, ab_Sh sx_sk h1 → (∀ i, mi_a h1 161 i = if i = Int.toNat zk then mi_a h 155 (Int.toNat (mi_a h 157 (Int.toNat zk))) else (mi_a h 161 i)) → (∀ i, mx_b h1 164 i = if i = Int.toNat zk then mx_b h 162 (Int.toNat (mi_a h 157 (Int.toNat zk))) else (mx_b h 164 i)) → ab_Fr [(20608, 20609), (20992, 20993)] h h1 → me_E (d) 239 16 [some (.inr (.inr 109)), some (.inl (zk + 1))] [] h1 Q)) : me_E (d) 239 16 [some (.inr (.inr 109)), some (.inl (zk))] [] h Q := Or.elim (mi_em .ge (zk) ((mi_f h 14015))) (fun c0 => ms_xkeB_0 hS ok_zk ⟨c0, (k0 (me_fb hS rfl) c0).1, (by decide)⟩ (fun h1 W => (k0 (me_fb hS rfl) c0).2 h1 W.1 (W.2.1 14017) (W.2.2.2.2.2 _ rfl))) (fun c0 => ms_xkeB_1 hS ok_zk ⟨c0, (k1 (me_fb hS rfl) c0).1.1, (k1 (me_fb hS rfl) c0).1.2.1, (k1 (me_fb hS rfl) c0).1.1, (k1 (me_fb hS rfl) c0).1.1, (k1 (me_fb hS rfl) c0).1.2.1, (k1 (me_fb hS rfl) c0).1.1, (k1 (me_fb hS rfl) c0).1.2.2⟩ (fun h1 W => (k1 (me_fb hS rfl) c0).2 h1 W.1 (fun i => W.2.2.1 161 i) (fun i => W.2.2.2.2.1 164 i) (W.2.2.2.2.2 _ rfl)))
/-! segments of the class: Tree.drop, parent, takeOver, against, isName, keep, count -/
set_option maxRecDepth 20000 in
theorem mp_kdr94_0 (h : sm_H) (d : Nat) : mj_path [(13, (1, 0, sb_13))] sx_sk h 3 [] (d, 13, 0, [some (.inr (.inr 94))], [], [], []) = some ((d, 13, 5, [some (.inr (.inr 94))], [], [.inl (12032, (0 : Int))], []), []) := rfl
theorem mi_tab_kdr94_0 : ∀ e ∈ ([(13, (1, 0, sb_13))] : mi_T), sc_P e.1 = some e.2 := mi_tb mi_P13 (mi_tb_e)
set_option maxRecDepth 20000 in
theorem ms_kdr94_0 {h : sm_H} {d : Nat} {Q : Option mi_V → sm_H → Prop} (hS : ab_Sh sx_sk h)  (kon : ∀ h1, me_W [.inl (12032, (0 : Int))] h h1 → Q none h1) : me_E (d) 13 0 [some (.inr (.inr 94))] [] h Q := mf_seg (mp_kdr94_0 h d ) (mi_tab_kdr94_0) hS (mi_okL_c (trivial) (mi_okL_e)) (mi_okS_e) (mi_al_e) (fun h1 W _ hst => mf_ret (M := (1, 0, sb_13)) rfl rfl rfl hst (mi_al_e) (kon h1 W))
set_option maxRecDepth 20000 in
theorem mt_kdr94 {h : sm_H} {d : Nat} {Q : Option mi_V → sm_H → Prop} (hS : ab_Sh sx_sk h)  (k0 : (∀ h1, ab_Sh sx_sk h1 → mi_f h1 12032 = (0 : Int) → ab_Fr [(12032, 12033)] h h1 → Q none h1)) : me_E (d) 13 0 [some (.inr (.inr 94))] [] h Q := ms_kdr94_0 hS (fun h1 W => (k0) h1 W.1 (W.2.1 12032) (W.2.2.2.2.2 _ rfl))
set_option maxRecDepth 20000 in
theorem mp_kdr98_0 (h : sm_H) (d : Nat) : mj_path [(13, (1, 0, sb_13))] sx_sk h 3 [] (d, 13, 0, [some (.inr (.inr 98))], [], [], []) = some ((d, 13, 5, [some (.inr (.inr 98))], [], [.inl (12544, (0 : Int))], []), []) := rfl
theorem mi_tab_kdr98_0 : ∀ e ∈ ([(13, (1, 0, sb_13))] : mi_T), sc_P e.1 = some e.2 := mi_tb mi_P13 (mi_tb_e)
set_option maxRecDepth 20000 in
theorem ms_kdr98_0 {h : sm_H} {d : Nat} {Q : Option mi_V → sm_H → Prop} (hS : ab_Sh sx_sk h)  (kon : ∀ h1, me_W [.inl (12544, (0 : Int))] h h1 → Q none h1) : me_E (d) 13 0 [some (.inr (.inr 98))] [] h Q := mf_seg (mp_kdr98_0 h d ) (mi_tab_kdr98_0) hS (mi_okL_c (trivial) (mi_okL_e)) (mi_okS_e) (mi_al_e) (fun h1 W _ hst => mf_ret (M := (1, 0, sb_13)) rfl rfl rfl hst (mi_al_e) (kon h1 W))
set_option maxRecDepth 20000 in
theorem mt_kdr98 {h : sm_H} {d : Nat} {Q : Option mi_V → sm_H → Prop} (hS : ab_Sh sx_sk h)  (k0 : (∀ h1, ab_Sh sx_sk h1 → mi_f h1 12544 = (0 : Int) → ab_Fr [(12544, 12545)] h h1 → Q none h1)) : me_E (d) 13 0 [some (.inr (.inr 98))] [] h Q := ms_kdr98_0 hS (fun h1 W => (k0) h1 W.1 (W.2.1 12544) (W.2.2.2.2.2 _ rfl))
set_option maxRecDepth 20000 in
theorem mp_kpaA_0 (h : sm_H) (d : Nat) (zk : Int) : mj_path [(161, (3, 1, sb_161))] sx_sk h 4 [8] (d + 1, 161, 0, [some (.inr (.inr 94)), some (.inl (zk)), none], [], [], []) = some ((d + 1, 161, 4, [some (.inr (.inr 94)), some (.inl (zk)), some (.inl (zk - ((1 : Int))))], [], [], []), [-2147483648 ≤ zk - ((1 : Int)) ∧ zk - ((1 : Int)) ≤ 2147483647]) := rfl
theorem mi_tab_kpaA_0 : ∀ e ∈ ([(161, (3, 1, sb_161))] : mi_T), sc_P e.1 = some e.2 := mi_tb mi_P161 (mi_tb_e)
set_option maxRecDepth 20000 in
theorem ms_kpaA_0 {h : sm_H} {d : Nat} {Q : Option mi_V → sm_H → Prop} {zk : Int} (hS : ab_Sh sx_sk h) (ok_zk : mi_in zk) (ho : (-2147483648 ≤ zk - ((1 : Int)) ∧ zk - ((1 : Int)) ≤ 2147483647)) (kon : ∀ h1, me_W [] h h1 → me_E (d + 1) 161 4 [some (.inr (.inr 94)), some (.inl (zk)), some (.inl (zk - ((1 : Int))))] [] h1 Q) : me_E (d + 1) 161 0 [some (.inr (.inr 94)), some (.inl (zk)), none] [] h Q := mf_seg (mp_kpaA_0 h d zk) (mi_tab_kpaA_0) hS (mi_okL_c (trivial) (mi_okL_c (ok_zk) (mi_okL_n (mi_okL_e)))) (mi_okS_e) (mi_al (ho) (mi_al_e)) (fun h1 W _ hst => kon h1 W)
set_option maxRecDepth 20000 in
theorem mt_kpaA {h : sm_H} {d : Nat} {Q : Option mi_V → sm_H → Prop} {zk : Int} (hS : ab_Sh sx_sk h) (ok_zk : mi_in zk) (k0 : ((-2147483648 ≤ zk - ((1 : Int)) ∧ zk - ((1 : Int)) ≤ 2147483647)) ∧ (∀ h1, ab_Sh sx_sk h1 → ab_Fr [] h h1 → me_E (d + 1) 161 4 [some (.inr (.inr 94)), some (.inl (zk)), some (.inl (zk - ((1 : Int))))] [] h1 Q)) : me_E (d + 1) 161 0 [some (.inr (.inr 94)), some (.inl (zk)), none] [] h Q := ms_kpaA_0 hS ok_zk ((k0).1) (fun h1 W => (k0).2 h1 W.1 (W.2.2.2.2.2 _ rfl))
set_option maxRecDepth 20000 in
theorem mp_kpaB_0 (h : sm_H) (d : Nat) (zk zj : Int) : mj_path [(161, (3, 1, sb_161)), (16, (3, 0, sb_16)), (49, (2, 1, sb_49))] sx_sk h 3 [1] (d + 1, 161, 4, [some (.inr (.inr 94)), some (.inl (zk)), some (.inl (zj))], [], [], []) = some ((d + 1, 161, 31, [some (.inr (.inr 94)), some (.inl (zk)), some (.inl (zj))], [.inl ((-1 : Int))], [], []), [zj < ((0 : Int))]) := rfl
theorem mi_tab_kpaB_0 : ∀ e ∈ ([(161, (3, 1, sb_161)), (16, (3, 0, sb_16)), (49, (2, 1, sb_49))] : mi_T), sc_P e.1 = some e.2 := mi_tb mi_P161 (mi_tb mi_P16 (mi_tb mi_P49 (mi_tb_e)))
set_option maxRecDepth 20000 in
theorem ms_kpaB_0 {h : sm_H} {d : Nat} {Q : Option mi_V → sm_H → Prop} {zk zj : Int} (hS : ab_Sh sx_sk h) (ok_zk : mi_in zk) (ok_zj : mi_in zj) (ho : (zj < ((0 : Int)))) (kon : ∀ h1, me_W [] h h1 → Q (some (.inl ((-1 : Int)))) h1) : me_E (d + 1) 161 4 [some (.inr (.inr 94)), some (.inl (zk)), some (.inl (zj))] [] h Q := mf_seg (mp_kpaB_0 h d zk zj) (mi_tab_kpaB_0) hS (mi_okL_c (trivial) (mi_okL_c (ok_zk) (mi_okL_c (ok_zj) (mi_okL_e)))) (mi_okS_e) (mi_al (ho) (mi_al_e)) (fun h1 W _ hst => mf_ret (M := (3, 1, sb_161)) rfl rfl rfl hst (mi_al_e) (kon h1 W))
set_option maxRecDepth 20000 in
theorem mp_kpaB_1 (h : sm_H) (d : Nat) (zk zj : Int) : mj_path [(161, (3, 1, sb_161)), (16, (3, 0, sb_16)), (49, (2, 1, sb_49))] sx_sk h 20 [0, 0, 1, 8, 1] (d + 1, 161, 4, [some (.inr (.inr 94)), some (.inl (zk)), some (.inl (zj))], [], [], []) = some ((d + 1, 161, 4, [some (.inr (.inr 94)), some (.inl (zk)), some (.inl (zj + (-1)))], [], [], []), [((0 : Int)) ≤ zj, ((0 : Int)) ≤ zj, ((100 : Int)) ≤ zj, -2147483648 ≤ zj + ((0 : Int)) ∧ zj + ((0 : Int)) ≤ 2147483647, (zj + ((0 : Int))) < zk, -2147483648 ≤ zj + (-1) ∧ zj + (-1) ≤ 2147483647]) := rfl
theorem mi_tab_kpaB_1 : ∀ e ∈ ([(161, (3, 1, sb_161)), (16, (3, 0, sb_16)), (49, (2, 1, sb_49))] : mi_T), sc_P e.1 = some e.2 := mi_tb mi_P161 (mi_tb mi_P16 (mi_tb mi_P49 (mi_tb_e)))
set_option maxRecDepth 20000 in
theorem ms_kpaB_1 {h : sm_H} {d : Nat} {Q : Option mi_V → sm_H → Prop} {zk zj : Int} (hS : ab_Sh sx_sk h) (ok_zk : mi_in zk) (ok_zj : mi_in zj) (ho : (((0 : Int)) ≤ zj) ∧ (((0 : Int)) ≤ zj) ∧ (((100 : Int)) ≤ zj) ∧ (-2147483648 ≤ zj + ((0 : Int)) ∧ zj + ((0 : Int)) ≤ 2147483647) ∧ ((zj + ((0 : Int))) < zk) ∧ (-2147483648 ≤ zj + (-1) ∧ zj + (-1) ≤ 2147483647)) (kon : ∀ h1, me_W [] h h1 → me_E (d + 1) 161 4 [some (.inr (.inr 94)), some (.inl (zk)), some (.inl (zj + (-1)))] [] h1 Q) : me_E (d + 1) 161 4 [some (.inr (.inr 94)), some (.inl (zk)), some (.inl (zj))] [] h Q := mf_seg (mp_kpaB_1 h d zk zj) (mi_tab_kpaB_1) hS (mi_okL_c (trivial) (mi_okL_c (ok_zk) (mi_okL_c (ok_zj) (mi_okL_e)))) (mi_okS_e) (mi_al (ho.1) (mi_al (ho.2.1) (mi_al (ho.2.2.1) (mi_al (ho.2.2.2.1) (mi_al (ho.2.2.2.2.1) (mi_al (ho.2.2.2.2.2) (mi_al_e))))))) (fun h1 W _ hst => kon h1 W)
set_option maxRecDepth 20000 in
theorem mp_kpaB_2 (h : sm_H) (d : Nat) (zk zj : Int) : mj_path [(161, (3, 1, sb_161)), (16, (3, 0, sb_16)), (49, (2, 1, sb_49))] sx_sk h 19 [0, 0, 1, 8, 0] (d + 1, 161, 4, [some (.inr (.inr 94)), some (.inl (zk)), some (.inl (zj))], [], [], []) = some ((d + 1, 161, 23, [some (.inr (.inr 94)), some (.inl (zk)), some (.inl (zj))], [.inl (zj)], [], []), [((0 : Int)) ≤ zj, ((0 : Int)) ≤ zj, ((100 : Int)) ≤ zj, -2147483648 ≤ zj + ((0 : Int)) ∧ zj + ((0 : Int)) ≤ 2147483647, zk ≤ (zj + ((0 : Int)))]) := rfl
theorem mi_tab_kpaB_2 : ∀ e ∈ ([(161, (3, 1, sb_161)), (16, (3, 0, sb_16)), (49, (2, 1, sb_49))] : mi_T), sc_P e.1 = some e.2 := mi_tb mi_P161 (mi_tb mi_P16 (mi_tb mi_P49 (mi_tb_e)))
set_option maxRecDepth 20000 in
theorem ms_kpaB_2 {h : sm_H} {d : Nat} {Q : Option mi_V → sm_H → Prop} {zk zj : Int} (hS : ab_Sh sx_sk h) (ok_zk : mi_in zk) (ok_zj : mi_in zj) (ho : (((0 : Int)) ≤ zj) ∧ (((0 : Int)) ≤ zj) ∧ (((100 : Int)) ≤ zj) ∧ (-2147483648 ≤ zj + ((0 : Int)) ∧ zj + ((0 : Int)) ≤ 2147483647) ∧ (zk ≤ (zj + ((0 : Int))))) (kon : ∀ h1, me_W [] h h1 → Q (some (.inl (zj))) h1) : me_E (d + 1) 161 4 [some (.inr (.inr 94)), some (.inl (zk)), some (.inl (zj))] [] h Q := mf_seg (mp_kpaB_2 h d zk zj) (mi_tab_kpaB_2) hS (mi_okL_c (trivial) (mi_okL_c (ok_zk) (mi_okL_c (ok_zj) (mi_okL_e)))) (mi_okS_e) (mi_al (ho.1) (mi_al (ho.2.1) (mi_al (ho.2.2.1) (mi_al (ho.2.2.2.1) (mi_al (ho.2.2.2.2) (mi_al_e)))))) (fun h1 W _ hst => mf_ret (M := (3, 1, sb_161)) rfl rfl rfl hst (mi_al_e) (kon h1 W))
set_option maxRecDepth 20000 in
theorem mp_kpaB_3 (h : sm_H) (d : Nat) (zk zj : Int) : mj_path [(161, (3, 1, sb_161)), (16, (3, 0, sb_16)), (49, (2, 1, sb_49))] sx_sk h 23 [0, 0, 0, 8, 1] (d + 1, 161, 4, [some (.inr (.inr 94)), some (.inl (zk)), some (.inl (zj))], [], [], []) = some ((d + 1, 161, 4, [some (.inr (.inr 94)), some (.inl (zk)), some (.inl (zj + (-1)))], [], [], []), [((0 : Int)) ≤ zj, ((0 : Int)) ≤ zj, zj < ((100 : Int)), 0 ≤ zj ∧ zj < 100, -2147483648 ≤ zj + (mi_a h 97 (Int.toNat zj)) ∧ zj + (mi_a h 97 (Int.toNat zj)) ≤ 2147483647, (zj + (mi_a h 97 (Int.toNat zj))) < zk, -2147483648 ≤ zj + (-1) ∧ zj + (-1) ≤ 2147483647]) := rfl
theorem mi_tab_kpaB_3 : ∀ e ∈ ([(161, (3, 1, sb_161)), (16, (3, 0, sb_16)), (49, (2, 1, sb_49))] : mi_T), sc_P e.1 = some e.2 := mi_tb mi_P161 (mi_tb mi_P16 (mi_tb mi_P49 (mi_tb_e)))
set_option maxRecDepth 20000 in
theorem ms_kpaB_3 {h : sm_H} {d : Nat} {Q : Option mi_V → sm_H → Prop} {zk zj : Int} (hS : ab_Sh sx_sk h) (ok_zk : mi_in zk) (ok_zj : mi_in zj) (ho : (((0 : Int)) ≤ zj) ∧ (((0 : Int)) ≤ zj) ∧ (zj < ((100 : Int))) ∧ (0 ≤ zj ∧ zj < 100) ∧ (-2147483648 ≤ zj + (mi_a h 97 (Int.toNat zj)) ∧ zj + (mi_a h 97 (Int.toNat zj)) ≤ 2147483647) ∧ ((zj + (mi_a h 97 (Int.toNat zj))) < zk) ∧ (-2147483648 ≤ zj + (-1) ∧ zj + (-1) ≤ 2147483647)) (kon : ∀ h1, me_W [] h h1 → me_E (d + 1) 161 4 [some (.inr (.inr 94)), some (.inl (zk)), some (.inl (zj + (-1)))] [] h1 Q) : me_E (d + 1) 161 4 [some (.inr (.inr 94)), some (.inl (zk)), some (.inl (zj))] [] h Q := mf_seg (mp_kpaB_3 h d zk zj) (mi_tab_kpaB_3) hS (mi_okL_c (trivial) (mi_okL_c (ok_zk) (mi_okL_c (ok_zj) (mi_okL_e)))) (mi_okS_e) (mi_al (ho.1) (mi_al (ho.2.1) (mi_al (ho.2.2.1) (mi_al (ho.2.2.2.1) (mi_al (ho.2.2.2.2.1) (mi_al (ho.2.2.2.2.2.1) (mi_al (ho.2.2.2.2.2.2) (mi_al_e)))))))) (fun h1 W _ hst => kon h1 W)
set_option maxRecDepth 20000 in
theorem mp_kpaB_4 (h : sm_H) (d : Nat) (zk zj : Int) : mj_path [(161, (3, 1, sb_161)), (16, (3, 0, sb_16)), (49, (2, 1, sb_49))] sx_sk h 22 [0, 0, 0, 8, 0] (d + 1, 161, 4, [some (.inr (.inr 94)), some (.inl (zk)), some (.inl (zj))], [], [], []) = some ((d + 1, 161, 23, [some (.inr (.inr 94)), some (.inl (zk)), some (.inl (zj))], [.inl (zj)], [], []), [((0 : Int)) ≤ zj, ((0 : Int)) ≤ zj, zj < ((100 : Int)), 0 ≤ zj ∧ zj < 100, -2147483648 ≤ zj + (mi_a h 97 (Int.toNat zj)) ∧ zj + (mi_a h 97 (Int.toNat zj)) ≤ 2147483647, zk ≤ (zj + (mi_a h 97 (Int.toNat zj)))]) := rfl
theorem mi_tab_kpaB_4 : ∀ e ∈ ([(161, (3, 1, sb_161)), (16, (3, 0, sb_16)), (49, (2, 1, sb_49))] : mi_T), sc_P e.1 = some e.2 := mi_tb mi_P161 (mi_tb mi_P16 (mi_tb mi_P49 (mi_tb_e)))
set_option maxRecDepth 20000 in
theorem ms_kpaB_4 {h : sm_H} {d : Nat} {Q : Option mi_V → sm_H → Prop} {zk zj : Int} (hS : ab_Sh sx_sk h) (ok_zk : mi_in zk) (ok_zj : mi_in zj) (ho : (((0 : Int)) ≤ zj) ∧ (((0 : Int)) ≤ zj) ∧ (zj < ((100 : Int))) ∧ (0 ≤ zj ∧ zj < 100) ∧ (-2147483648 ≤ zj + (mi_a h 97 (Int.toNat zj)) ∧ zj + (mi_a h 97 (Int.toNat zj)) ≤ 2147483647) ∧ (zk ≤ (zj + (mi_a h 97 (Int.toNat zj))))) (kon : ∀ h1, me_W [] h h1 → Q (some (.inl (zj))) h1) : me_E (d + 1) 161 4 [some (.inr (.inr 94)), some (.inl (zk)), some (.inl (zj))] [] h Q := mf_seg (mp_kpaB_4 h d zk zj) (mi_tab_kpaB_4) hS (mi_okL_c (trivial) (mi_okL_c (ok_zk) (mi_okL_c (ok_zj) (mi_okL_e)))) (mi_okS_e) (mi_al (ho.1) (mi_al (ho.2.1) (mi_al (ho.2.2.1) (mi_al (ho.2.2.2.1) (mi_al (ho.2.2.2.2.1) (mi_al (ho.2.2.2.2.2) (mi_al_e))))))) (fun h1 W _ hst => mf_ret (M := (3, 1, sb_161)) rfl rfl rfl hst (mi_al_e) (kon h1 W))
set_option maxRecDepth 20000 in
theorem mt_kpaB {h : sm_H} {d : Nat} {Q : Option mi_V → sm_H → Prop} {zk zj : Int} (hS : ab_Sh sx_sk h) (ok_zk : mi_in zk) (ok_zj : mi_in zj) (k0 : (zj < ((0 : Int))) → (∀ h1, ab_Sh sx_sk h1 → ab_Fr [] h h1 → Q (some (.inl ((-1 : Int)))) h1)) (k1 : (((0 : Int)) ≤ zj) → (((100 : Int)) ≤ zj) → ((zj + ((0 : Int))) < zk) → ((-2147483648 ≤ zj + ((0 : Int)) ∧ zj + ((0 : Int)) ≤ 2147483647) ∧ (-2147483648 ≤ zj + (-1) ∧ zj + (-1) ≤ 2147483647)) ∧ (∀ h1, ab_Sh sx_sk h1 → ab_Fr [] h h1 → me_E (d + 1) 161 4 [some (.inr (.inr 94)), some (.inl (zk)), some (.inl (zj + (-1)))] [] h1 Q)) (k2 : (((0 : Int)) ≤ zj) → (((100 : Int)) ≤ zj) → (zk ≤ (zj + ((0 : Int)))) → ((-2147483648 ≤ zj + ((0 : Int)) ∧ zj + ((0 : Int)) ≤ 2147483647)) ∧ (∀ h1, ab_Sh sx_sk h1 → ab_Fr [] h h1 → Q (some (.inl (zj))) h1)) (k3 : (((0 : Int)) ≤ zj) → (zj < ((100 : Int))) → ((zj + (mi_a h 97 (Int.toNat zj))) < zk) → ((0 ≤ zj ∧ zj < 100) ∧ (-2147483648 ≤ zj + (mi_a h 97 (Int.toNat zj)) ∧ zj + (mi_a h 97 (Int.toNat zj)) ≤ 2147483647) ∧ (-2147483648 ≤ zj + (-1) ∧ zj + (-1) ≤ 2147483647)) ∧ (∀ h1, ab_Sh sx_sk h1 → ab_Fr [] h h1 → me_E (d + 1) 161 4 [some (.inr (.inr 94)), some (.inl (zk)), some (.inl (zj + (-1)))] [] h1 Q)) (k4 : (((0 : Int)) ≤ zj) → (zj < ((100 : Int))) → (zk ≤ (zj + (mi_a h 97 (Int.toNat zj)))) → ((0 ≤ zj ∧ zj < 100) ∧ (-2147483648 ≤ zj + (mi_a h 97 (Int.toNat zj)) ∧ zj + (mi_a h 97 (Int.toNat zj)) ≤ 2147483647)) ∧ (∀ h1, ab_Sh sx_sk h1 → ab_Fr [] h h1 → Q (some (.inl (zj))) h1)) : me_E (d + 1) 161 4 [some (.inr (.inr 94)), some (.inl (zk)), some (.inl (zj))] [] h Q := Or.elim (mi_em .lt (zj) (((0 : Int)))) (fun c0 => ms_kpaB_0 hS ok_zk ok_zj (c0) (fun h1 W => (k0 c0) h1 W.1 (W.2.2.2.2.2 _ rfl))) (fun c0 => Or.elim (mi_em .ge (zj) (((100 : Int)))) (fun c1 => Or.elim (mi_em .lt ((zj + ((0 : Int)))) (zk)) (fun c2 => ms_kpaB_1 hS ok_zk ok_zj ⟨c0, c0, c1, (k1 c0 c1 c2).1.1, c2, (k1 c0 c1 c2).1.2⟩ (fun h1 W => (k1 c0 c1 c2).2 h1 W.1 (W.2.2.2.2.2 _ rfl))) (fun c2 => ms_kpaB_2 hS ok_zk ok_zj ⟨c0, c0, c1, (k2 c0 c1 c2).1, c2⟩ (fun h1 W => (k2 c0 c1 c2).2 h1 W.1 (W.2.2.2.2.2 _ rfl)))) (fun c1 => Or.elim (mi_em .lt ((zj + (mi_a h 97 (Int.toNat zj)))) (zk)) (fun c2 => ms_kpaB_3 hS ok_zk ok_zj ⟨c0, c0, c1, (k3 c0 c1 c2).1.1, (k3 c0 c1 c2).1.2.1, c2, (k3 c0 c1 c2).1.2.2⟩ (fun h1 W => (k3 c0 c1 c2).2 h1 W.1 (W.2.2.2.2.2 _ rfl))) (fun c2 => ms_kpaB_4 hS ok_zk ok_zj ⟨c0, c0, c1, (k4 c0 c1 c2).1.1, (k4 c0 c1 c2).1.2, c2⟩ (fun h1 W => (k4 c0 c1 c2).2 h1 W.1 (W.2.2.2.2.2 _ rfl)))))
set_option maxRecDepth 20000 in
theorem mp_kinA_0 (h : sm_H) (d : Nat) (zv : Int64) : mj_path [(163, (7, 4, sb_163))] sx_sk h 5 [1] (d, 163, 0, [some (.inr (.inl (zv))), none, none, none, none, none, none], [], [], []) = some ((d, 163, 15, [some (.inr (.inl (zv))), none, none, none, none, none, none], [.inl ((0 : Int))], [], []), [((lg_cmp zv (Int64.ofNat 0)).toInt) ≤ ((0 : Int))]) := rfl
theorem mi_tab_kinA_0 : ∀ e ∈ ([(163, (7, 4, sb_163))] : mi_T), sc_P e.1 = some e.2 := mi_tb mi_P163 (mi_tb_e)
set_option maxRecDepth 20000 in
theorem ms_kinA_0 {h : sm_H} {d : Nat} {Q : Option mi_V → sm_H → Prop} {zv : Int64} (hS : ab_Sh sx_sk h)  (ho : (((lg_cmp zv (Int64.ofNat 0)).toInt) ≤ ((0 : Int))) ∧ (((0 : Int)) = 0 ∨ ((0 : Int)) = 1)) (kon : ∀ h1, me_W [] h h1 → Q (some (.inl ((0 : Int)))) h1) : me_E (d) 163 0 [some (.inr (.inl (zv))), none, none, none, none, none, none] [] h Q := mf_seg (mp_kinA_0 h d zv) (mi_tab_kinA_0) hS (mi_okL_c (trivial) (mi_okL_n (mi_okL_n (mi_okL_n (mi_okL_n (mi_okL_n (mi_okL_n (mi_okL_e)))))))) (mi_okS_e) (mi_al (ho.1) (mi_al_e)) (fun h1 W _ hst => mf_ret (M := (7, 4, sb_163)) rfl rfl rfl hst (mi_al (ho.2) mi_al_e) (kon h1 W))
set_option maxRecDepth 20000 in
theorem mp_kinA_1 (h : sm_H) (d : Nat) (zv : Int64) : mj_path [(163, (7, 4, sb_163))] sx_sk h 12 [0, 1] (d, 163, 0, [some (.inr (.inl (zv))), none, none, none, none, none, none], [], [], []) = some ((d, 163, 21, [some (.inr (.inl (zv))), none, some (.inr (.inl (zv))), none, some (.inl ((0 : Int))), none, none], [], [], []), [((0 : Int)) < ((lg_cmp zv (Int64.ofNat 0)).toInt), ((lg_cmp zv (Int64.ofNat 1073741824)).toInt) < ((0 : Int))]) := rfl
theorem mi_tab_kinA_1 : ∀ e ∈ ([(163, (7, 4, sb_163))] : mi_T), sc_P e.1 = some e.2 := mi_tb mi_P163 (mi_tb_e)
set_option maxRecDepth 20000 in
theorem ms_kinA_1 {h : sm_H} {d : Nat} {Q : Option mi_V → sm_H → Prop} {zv : Int64} (hS : ab_Sh sx_sk h)  (ho : (((0 : Int)) < ((lg_cmp zv (Int64.ofNat 0)).toInt)) ∧ (((lg_cmp zv (Int64.ofNat 1073741824)).toInt) < ((0 : Int)))) (kon : ∀ h1, me_W [] h h1 → me_E (d) 163 21 [some (.inr (.inl (zv))), none, some (.inr (.inl (zv))), none, some (.inl ((0 : Int))), none, none] [] h1 Q) : me_E (d) 163 0 [some (.inr (.inl (zv))), none, none, none, none, none, none] [] h Q := mf_seg (mp_kinA_1 h d zv) (mi_tab_kinA_1) hS (mi_okL_c (trivial) (mi_okL_n (mi_okL_n (mi_okL_n (mi_okL_n (mi_okL_n (mi_okL_n (mi_okL_e)))))))) (mi_okS_e) (mi_al (ho.1) (mi_al (ho.2) (mi_al_e))) (fun h1 W _ hst => kon h1 W)
set_option maxRecDepth 20000 in
theorem mp_kinA_2 (h : sm_H) (d : Nat) (zv : Int64) : mj_path [(163, (7, 4, sb_163))] sx_sk h 9 [0, 0] (d, 163, 0, [some (.inr (.inl (zv))), none, none, none, none, none, none], [], [], []) = some ((d, 163, 15, [some (.inr (.inl (zv))), none, none, none, none, none, none], [.inl ((0 : Int))], [], []), [((0 : Int)) < ((lg_cmp zv (Int64.ofNat 0)).toInt), ((0 : Int)) ≤ ((lg_cmp zv (Int64.ofNat 1073741824)).toInt)]) := rfl
theorem mi_tab_kinA_2 : ∀ e ∈ ([(163, (7, 4, sb_163))] : mi_T), sc_P e.1 = some e.2 := mi_tb mi_P163 (mi_tb_e)
set_option maxRecDepth 20000 in
theorem ms_kinA_2 {h : sm_H} {d : Nat} {Q : Option mi_V → sm_H → Prop} {zv : Int64} (hS : ab_Sh sx_sk h)  (ho : (((0 : Int)) < ((lg_cmp zv (Int64.ofNat 0)).toInt)) ∧ (((0 : Int)) ≤ ((lg_cmp zv (Int64.ofNat 1073741824)).toInt)) ∧ (((0 : Int)) = 0 ∨ ((0 : Int)) = 1)) (kon : ∀ h1, me_W [] h h1 → Q (some (.inl ((0 : Int)))) h1) : me_E (d) 163 0 [some (.inr (.inl (zv))), none, none, none, none, none, none] [] h Q := mf_seg (mp_kinA_2 h d zv) (mi_tab_kinA_2) hS (mi_okL_c (trivial) (mi_okL_n (mi_okL_n (mi_okL_n (mi_okL_n (mi_okL_n (mi_okL_n (mi_okL_e)))))))) (mi_okS_e) (mi_al (ho.1) (mi_al (ho.2.1) (mi_al_e))) (fun h1 W _ hst => mf_ret (M := (7, 4, sb_163)) rfl rfl rfl hst (mi_al (ho.2.2) mi_al_e) (kon h1 W))
set_option maxRecDepth 20000 in
theorem mt_kinA {h : sm_H} {d : Nat} {Q : Option mi_V → sm_H → Prop} {zv : Int64} (hS : ab_Sh sx_sk h)  (k0 : (((lg_cmp zv (Int64.ofNat 0)).toInt) ≤ ((0 : Int))) → (∀ h1, ab_Sh sx_sk h1 → ab_Fr [] h h1 → Q (some (.inl ((0 : Int)))) h1)) (k1 : (((0 : Int)) < ((lg_cmp zv (Int64.ofNat 0)).toInt)) → (((lg_cmp zv (Int64.ofNat 1073741824)).toInt) < ((0 : Int))) → (∀ h1, ab_Sh sx_sk h1 → ab_Fr [] h h1 → me_E (d) 163 21 [some (.inr (.inl (zv))), none, some (.inr (.inl (zv))), none, some (.inl ((0 : Int))), none, none] [] h1 Q)) (k2 : (((0 : Int)) < ((lg_cmp zv (Int64.ofNat 0)).toInt)) → (((0 : Int)) ≤ ((lg_cmp zv (Int64.ofNat 1073741824)).toInt)) → (∀ h1, ab_Sh sx_sk h1 → ab_Fr [] h h1 → Q (some (.inl ((0 : Int)))) h1)) : me_E (d) 163 0 [some (.inr (.inl (zv))), none, none, none, none, none, none] [] h Q := Or.elim (mi_em .le (((lg_cmp zv (Int64.ofNat 0)).toInt)) (((0 : Int)))) (fun c0 => ms_kinA_0 hS ⟨c0, (by decide)⟩ (fun h1 W => (k0 c0) h1 W.1 (W.2.2.2.2.2 _ rfl))) (fun c0 => Or.elim (mi_em .lt (((lg_cmp zv (Int64.ofNat 1073741824)).toInt)) (((0 : Int)))) (fun c1 => ms_kinA_1 hS ⟨c0, c1⟩ (fun h1 W => (k1 c0 c1) h1 W.1 (W.2.2.2.2.2 _ rfl))) (fun c1 => ms_kinA_2 hS ⟨c0, c1, (by decide)⟩ (fun h1 W => (k2 c0 c1) h1 W.1 (W.2.2.2.2.2 _ rfl))))
set_option maxRecDepth 20000 in
theorem mp_kinB_0 (h : sm_H) (d : Nat) (zn : Int) (zv zr : Int64) (q5 : Option mi_V) : mj_path [(163, (7, 4, sb_163))] sx_sk h 4 [1] (d, 163, 21, [some (.inr (.inl (zv))), none, some (.inr (.inl (zr))), none, some (.inl (zn)), q5, none], [], [], []) = some ((d, 163, 70, [some (.inr (.inl (zv))), none, some (.inr (.inl (zr))), none, some (.inl (zn)), q5, none], [.inl ((1 : Int))], [], []), [((6 : Int)) ≤ zn]) := rfl
theorem mi_tab_kinB_0 : ∀ e ∈ ([(163, (7, 4, sb_163))] : mi_T), sc_P e.1 = some e.2 := mi_tb mi_P163 (mi_tb_e)
set_option maxRecDepth 20000 in
theorem ms_kinB_0 {h : sm_H} {d : Nat} {Q : Option mi_V → sm_H → Prop} {zn : Int} {zv zr : Int64} {q5 : Option mi_V} (hS : ab_Sh sx_sk h) (ok_zn : mi_in zn) (ok_q5 : ∀ v, q5 = some v → mi_ok v) (ho : (((6 : Int)) ≤ zn) ∧ (((1 : Int)) = 0 ∨ ((1 : Int)) = 1)) (kon : ∀ h1, me_W [] h h1 → Q (some (.inl ((1 : Int)))) h1) : me_E (d) 163 21 [some (.inr (.inl (zv))), none, some (.inr (.inl (zr))), none, some (.inl (zn)), q5, none] [] h Q := mf_seg (mp_kinB_0 h d zn zv zr q5) (mi_tab_kinB_0) hS (mi_okL_c (trivial) (mi_okL_n (mi_okL_c (trivial) (mi_okL_n (mi_okL_c (ok_zn) (mi_okL_o ok_q5 (mi_okL_n (mi_okL_e)))))))) (mi_okS_e) (mi_al (ho.1) (mi_al_e)) (fun h1 W _ hst => mf_ret (M := (7, 4, sb_163)) rfl rfl rfl hst (mi_al (ho.2) mi_al_e) (kon h1 W))
set_option maxRecDepth 20000 in
theorem mp_kinB_1 (h : sm_H) (d : Nat) (zn : Int) (zv zr : Int64) (q5 : Option mi_V) : mj_path [(163, (7, 4, sb_163))] sx_sk h 8 [0, 1] (d, 163, 21, [some (.inr (.inl (zv))), none, some (.inr (.inl (zr))), none, some (.inl (zn)), q5, none], [], [], []) = some ((d, 163, 70, [some (.inr (.inl (zv))), none, some (.inr (.inl (zr))), none, some (.inl (zn)), q5, none], [.inl ((1 : Int))], [], []), [zn < ((6 : Int)), ((lg_cmp zr (Int64.ofNat 0)).toInt) = ((0 : Int))]) := rfl
theorem mi_tab_kinB_1 : ∀ e ∈ ([(163, (7, 4, sb_163))] : mi_T), sc_P e.1 = some e.2 := mi_tb mi_P163 (mi_tb_e)
set_option maxRecDepth 20000 in
theorem ms_kinB_1 {h : sm_H} {d : Nat} {Q : Option mi_V → sm_H → Prop} {zn : Int} {zv zr : Int64} {q5 : Option mi_V} (hS : ab_Sh sx_sk h) (ok_zn : mi_in zn) (ok_q5 : ∀ v, q5 = some v → mi_ok v) (ho : (zn < ((6 : Int))) ∧ (((lg_cmp zr (Int64.ofNat 0)).toInt) = ((0 : Int))) ∧ (((1 : Int)) = 0 ∨ ((1 : Int)) = 1)) (kon : ∀ h1, me_W [] h h1 → Q (some (.inl ((1 : Int)))) h1) : me_E (d) 163 21 [some (.inr (.inl (zv))), none, some (.inr (.inl (zr))), none, some (.inl (zn)), q5, none] [] h Q := mf_seg (mp_kinB_1 h d zn zv zr q5) (mi_tab_kinB_1) hS (mi_okL_c (trivial) (mi_okL_n (mi_okL_c (trivial) (mi_okL_n (mi_okL_c (ok_zn) (mi_okL_o ok_q5 (mi_okL_n (mi_okL_e)))))))) (mi_okS_e) (mi_al (ho.1) (mi_al (ho.2.1) (mi_al_e))) (fun h1 W _ hst => mf_ret (M := (7, 4, sb_163)) rfl rfl rfl hst (mi_al (ho.2.2) mi_al_e) (kon h1 W))
set_option maxRecDepth 20000 in
theorem mp_kinB_2 (h : sm_H) (d : Nat) (zn : Int) (zv zr : Int64) (q5 : Option mi_V) : mj_path [(163, (7, 4, sb_163))] sx_sk h 16 [0, 0, 1] (d, 163, 21, [some (.inr (.inl (zv))), none, some (.inr (.inl (zr))), none, some (.inl (zn)), q5, none], [], [], []) = some ((d, 163, 58, [some (.inr (.inl (zv))), none, some (.inr (.inl (zr))), none, some (.inl (zn)), some (.inr (.inl (zr &&& (Int64.ofNat 31)))), none], [.inl ((0 : Int))], [], []), [zn < ((6 : Int)), ((lg_cmp zr (Int64.ofNat 0)).toInt) ≠ ((0 : Int)), ((lg_cmp (zr &&& (Int64.ofNat 31)) (Int64.ofNat 1)).toInt) < ((0 : Int))]) := rfl
theorem mi_tab_kinB_2 : ∀ e ∈ ([(163, (7, 4, sb_163))] : mi_T), sc_P e.1 = some e.2 := mi_tb mi_P163 (mi_tb_e)
set_option maxRecDepth 20000 in
theorem ms_kinB_2 {h : sm_H} {d : Nat} {Q : Option mi_V → sm_H → Prop} {zn : Int} {zv zr : Int64} {q5 : Option mi_V} (hS : ab_Sh sx_sk h) (ok_zn : mi_in zn) (ok_q5 : ∀ v, q5 = some v → mi_ok v) (ho : (zn < ((6 : Int))) ∧ (((lg_cmp zr (Int64.ofNat 0)).toInt) ≠ ((0 : Int))) ∧ (((lg_cmp (zr &&& (Int64.ofNat 31)) (Int64.ofNat 1)).toInt) < ((0 : Int))) ∧ (((0 : Int)) = 0 ∨ ((0 : Int)) = 1)) (kon : ∀ h1, me_W [] h h1 → Q (some (.inl ((0 : Int)))) h1) : me_E (d) 163 21 [some (.inr (.inl (zv))), none, some (.inr (.inl (zr))), none, some (.inl (zn)), q5, none] [] h Q := mf_seg (mp_kinB_2 h d zn zv zr q5) (mi_tab_kinB_2) hS (mi_okL_c (trivial) (mi_okL_n (mi_okL_c (trivial) (mi_okL_n (mi_okL_c (ok_zn) (mi_okL_o ok_q5 (mi_okL_n (mi_okL_e)))))))) (mi_okS_e) (mi_al (ho.1) (mi_al (ho.2.1) (mi_al (ho.2.2.1) (mi_al_e)))) (fun h1 W _ hst => mf_ret (M := (7, 4, sb_163)) rfl rfl rfl hst (mi_al (ho.2.2.2) mi_al_e) (kon h1 W))
set_option maxRecDepth 20000 in
theorem mp_kinB_3 (h : sm_H) (d : Nat) (zn : Int) (zv zr : Int64) (q5 : Option mi_V) : mj_path [(163, (7, 4, sb_163))] sx_sk h 25 [0, 0, 0, 1] (d, 163, 21, [some (.inr (.inl (zv))), none, some (.inr (.inl (zr))), none, some (.inl (zn)), q5, none], [], [], []) = some ((d, 163, 21, [some (.inr (.inl (zv))), none, some (.inr (.inl (((zr).toUInt64 >>> ((Int32.ofInt ((5 : Int))).toInt64.toUInt64 &&& Int64.toUInt64 63)).toInt64))), none, some (.inl (zn + 1)), some (.inr (.inl (zr &&& (Int64.ofNat 31)))), none], [], [], []), [zn < ((6 : Int)), ((lg_cmp zr (Int64.ofNat 0)).toInt) ≠ ((0 : Int)), ((0 : Int)) ≤ ((lg_cmp (zr &&& (Int64.ofNat 31)) (Int64.ofNat 1)).toInt), ((lg_cmp (zr &&& (Int64.ofNat 31)) (Int64.ofNat 26)).toInt) ≤ ((0 : Int)), -2147483648 ≤ zn + 1 ∧ zn + 1 ≤ 2147483647]) := rfl
theorem mi_tab_kinB_3 : ∀ e ∈ ([(163, (7, 4, sb_163))] : mi_T), sc_P e.1 = some e.2 := mi_tb mi_P163 (mi_tb_e)
set_option maxRecDepth 20000 in
theorem ms_kinB_3 {h : sm_H} {d : Nat} {Q : Option mi_V → sm_H → Prop} {zn : Int} {zv zr : Int64} {q5 : Option mi_V} (hS : ab_Sh sx_sk h) (ok_zn : mi_in zn) (ok_q5 : ∀ v, q5 = some v → mi_ok v) (ho : (zn < ((6 : Int))) ∧ (((lg_cmp zr (Int64.ofNat 0)).toInt) ≠ ((0 : Int))) ∧ (((0 : Int)) ≤ ((lg_cmp (zr &&& (Int64.ofNat 31)) (Int64.ofNat 1)).toInt)) ∧ (((lg_cmp (zr &&& (Int64.ofNat 31)) (Int64.ofNat 26)).toInt) ≤ ((0 : Int))) ∧ (-2147483648 ≤ zn + 1 ∧ zn + 1 ≤ 2147483647)) (kon : ∀ h1, me_W [] h h1 → me_E (d) 163 21 [some (.inr (.inl (zv))), none, some (.inr (.inl (((zr).toUInt64 >>> ((Int32.ofInt ((5 : Int))).toInt64.toUInt64 &&& Int64.toUInt64 63)).toInt64))), none, some (.inl (zn + 1)), some (.inr (.inl (zr &&& (Int64.ofNat 31)))), none] [] h1 Q) : me_E (d) 163 21 [some (.inr (.inl (zv))), none, some (.inr (.inl (zr))), none, some (.inl (zn)), q5, none] [] h Q := mf_seg (mp_kinB_3 h d zn zv zr q5) (mi_tab_kinB_3) hS (mi_okL_c (trivial) (mi_okL_n (mi_okL_c (trivial) (mi_okL_n (mi_okL_c (ok_zn) (mi_okL_o ok_q5 (mi_okL_n (mi_okL_e)))))))) (mi_okS_e) (mi_al (ho.1) (mi_al (ho.2.1) (mi_al (ho.2.2.1) (mi_al (ho.2.2.2.1) (mi_al (ho.2.2.2.2) (mi_al_e)))))) (fun h1 W _ hst => kon h1 W)
set_option maxRecDepth 20000 in
theorem mp_kinB_4 (h : sm_H) (d : Nat) (zn : Int) (zv zr : Int64) (q5 : Option mi_V) : mj_path [(163, (7, 4, sb_163))] sx_sk h 20 [0, 0, 0, 0] (d, 163, 21, [some (.inr (.inl (zv))), none, some (.inr (.inl (zr))), none, some (.inl (zn)), q5, none], [], [], []) = some ((d, 163, 58, [some (.inr (.inl (zv))), none, some (.inr (.inl (zr))), none, some (.inl (zn)), some (.inr (.inl (zr &&& (Int64.ofNat 31)))), none], [.inl ((0 : Int))], [], []), [zn < ((6 : Int)), ((lg_cmp zr (Int64.ofNat 0)).toInt) ≠ ((0 : Int)), ((0 : Int)) ≤ ((lg_cmp (zr &&& (Int64.ofNat 31)) (Int64.ofNat 1)).toInt), ((0 : Int)) < ((lg_cmp (zr &&& (Int64.ofNat 31)) (Int64.ofNat 26)).toInt)]) := rfl
theorem mi_tab_kinB_4 : ∀ e ∈ ([(163, (7, 4, sb_163))] : mi_T), sc_P e.1 = some e.2 := mi_tb mi_P163 (mi_tb_e)
set_option maxRecDepth 20000 in
theorem ms_kinB_4 {h : sm_H} {d : Nat} {Q : Option mi_V → sm_H → Prop} {zn : Int} {zv zr : Int64} {q5 : Option mi_V} (hS : ab_Sh sx_sk h) (ok_zn : mi_in zn) (ok_q5 : ∀ v, q5 = some v → mi_ok v) (ho : (zn < ((6 : Int))) ∧ (((lg_cmp zr (Int64.ofNat 0)).toInt) ≠ ((0 : Int))) ∧ (((0 : Int)) ≤ ((lg_cmp (zr &&& (Int64.ofNat 31)) (Int64.ofNat 1)).toInt)) ∧ (((0 : Int)) < ((lg_cmp (zr &&& (Int64.ofNat 31)) (Int64.ofNat 26)).toInt)) ∧ (((0 : Int)) = 0 ∨ ((0 : Int)) = 1)) (kon : ∀ h1, me_W [] h h1 → Q (some (.inl ((0 : Int)))) h1) : me_E (d) 163 21 [some (.inr (.inl (zv))), none, some (.inr (.inl (zr))), none, some (.inl (zn)), q5, none] [] h Q := mf_seg (mp_kinB_4 h d zn zv zr q5) (mi_tab_kinB_4) hS (mi_okL_c (trivial) (mi_okL_n (mi_okL_c (trivial) (mi_okL_n (mi_okL_c (ok_zn) (mi_okL_o ok_q5 (mi_okL_n (mi_okL_e)))))))) (mi_okS_e) (mi_al (ho.1) (mi_al (ho.2.1) (mi_al (ho.2.2.1) (mi_al (ho.2.2.2.1) (mi_al_e))))) (fun h1 W _ hst => mf_ret (M := (7, 4, sb_163)) rfl rfl rfl hst (mi_al (ho.2.2.2.2) mi_al_e) (kon h1 W))
set_option maxRecDepth 20000 in
theorem mt_kinB {h : sm_H} {d : Nat} {Q : Option mi_V → sm_H → Prop} {zn : Int} {zv zr : Int64} {q5 : Option mi_V} (hS : ab_Sh sx_sk h) (ok_zn : mi_in zn) (ok_q5 : ∀ v, q5 = some v → mi_ok v) (k0 : (((6 : Int)) ≤ zn) → (∀ h1, ab_Sh sx_sk h1 → ab_Fr [] h h1 → Q (some (.inl ((1 : Int)))) h1)) (k1 : (zn < ((6 : Int))) → (((lg_cmp zr (Int64.ofNat 0)).toInt) = ((0 : Int))) → (∀ h1, ab_Sh sx_sk h1 → ab_Fr [] h h1 → Q (some (.inl ((1 : Int)))) h1)) (k2 : (zn < ((6 : Int))) → (((lg_cmp zr (Int64.ofNat 0)).toInt) ≠ ((0 : Int))) → (((lg_cmp (zr &&& (Int64.ofNat 31)) (Int64.ofNat 1)).toInt) < ((0 : Int))) → (∀ h1, ab_Sh sx_sk h1 → ab_Fr [] h h1 → Q (some (.inl ((0 : Int)))) h1)) (k3 : (zn < ((6 : Int))) → (((lg_cmp zr (Int64.ofNat 0)).toInt) ≠ ((0 : Int))) → (((0 : Int)) ≤ ((lg_cmp (zr &&& (Int64.ofNat 31)) (Int64.ofNat 1)).toInt)) → (((lg_cmp (zr &&& (Int64.ofNat 31)) (Int64.ofNat 26)).toInt) ≤ ((0 : Int))) → ((-2147483648 ≤ zn + 1 ∧ zn + 1 ≤ 2147483647)) ∧ (∀ h1, ab_Sh sx_sk h1 → ab_Fr [] h h1 → me_E (d) 163 21 [some (.inr (.inl (zv))), none, some (.inr (.inl (((zr).toUInt64 >>> ((Int32.ofInt ((5 : Int))).toInt64.toUInt64 &&& Int64.toUInt64 63)).toInt64))), none, some (.inl (zn + 1)), some (.inr (.inl (zr &&& (Int64.ofNat 31)))), none] [] h1 Q)) (k4 : (zn < ((6 : Int))) → (((lg_cmp zr (Int64.ofNat 0)).toInt) ≠ ((0 : Int))) → (((0 : Int)) ≤ ((lg_cmp (zr &&& (Int64.ofNat 31)) (Int64.ofNat 1)).toInt)) → (((0 : Int)) < ((lg_cmp (zr &&& (Int64.ofNat 31)) (Int64.ofNat 26)).toInt)) → (∀ h1, ab_Sh sx_sk h1 → ab_Fr [] h h1 → Q (some (.inl ((0 : Int)))) h1)) : me_E (d) 163 21 [some (.inr (.inl (zv))), none, some (.inr (.inl (zr))), none, some (.inl (zn)), q5, none] [] h Q := Or.elim (mi_em .ge (zn) (((6 : Int)))) (fun c0 => ms_kinB_0 hS ok_zn ok_q5 ⟨c0, (by decide)⟩ (fun h1 W => (k0 c0) h1 W.1 (W.2.2.2.2.2 _ rfl))) (fun c0 => Or.elim (mi_em .eq (((lg_cmp zr (Int64.ofNat 0)).toInt)) (((0 : Int)))) (fun c1 => ms_kinB_1 hS ok_zn ok_q5 ⟨c0, c1, (by decide)⟩ (fun h1 W => (k1 c0 c1) h1 W.1 (W.2.2.2.2.2 _ rfl))) (fun c1 => Or.elim (mi_em .lt (((lg_cmp (zr &&& (Int64.ofNat 31)) (Int64.ofNat 1)).toInt)) (((0 : Int)))) (fun c2 => ms_kinB_2 hS ok_zn ok_q5 ⟨c0, c1, c2, (by decide)⟩ (fun h1 W => (k2 c0 c1 c2) h1 W.1 (W.2.2.2.2.2 _ rfl))) (fun c2 => Or.elim (mi_em .le (((lg_cmp (zr &&& (Int64.ofNat 31)) (Int64.ofNat 26)).toInt)) (((0 : Int)))) (fun c3 => ms_kinB_3 hS ok_zn ok_q5 ⟨c0, c1, c2, c3, (k3 c0 c1 c2 c3).1⟩ (fun h1 W => (k3 c0 c1 c2 c3).2 h1 W.1 (W.2.2.2.2.2 _ rfl))) (fun c3 => ms_kinB_4 hS ok_zn ok_q5 ⟨c0, c1, c2, c3, (by decide)⟩ (fun h1 W => (k4 c0 c1 c2 c3) h1 W.1 (W.2.2.2.2.2 _ rfl))))))
set_option maxRecDepth 20000 in
theorem mp_kttA_0 (h : sm_H) (d : Nat) : mj_path [(93, (3, 0, sb_93))] sx_sk h 6 [] (d + 2, 93, 0, [some (.inr (.inr 98)), some (.inr (.inr 94)), none], [], [], []) = some ((d + 2, 93, 10, [some (.inr (.inr 98)), some (.inr (.inr 94)), some (.inl ((0 : Int)))], [], [.inl (12544, mi_f h 12032)], []), []) := rfl
theorem mi_tab_kttA_0 : ∀ e ∈ ([(93, (3, 0, sb_93))] : mi_T), sc_P e.1 = some e.2 := mi_tb mi_P93 (mi_tb_e)
set_option maxRecDepth 20000 in
theorem ms_kttA_0 {h : sm_H} {d : Nat} {Q : Option mi_V → sm_H → Prop} (hS : ab_Sh sx_sk h)  (kon : ∀ h1, me_W [.inl (12544, mi_f h 12032)] h h1 → me_E (d + 2) 93 10 [some (.inr (.inr 98)), some (.inr (.inr 94)), some (.inl ((0 : Int)))] [] h1 Q) : me_E (d + 2) 93 0 [some (.inr (.inr 98)), some (.inr (.inr 94)), none] [] h Q := mf_seg (mp_kttA_0 h d ) (mi_tab_kttA_0) hS (mi_okL_c (trivial) (mi_okL_c (trivial) (mi_okL_n (mi_okL_e)))) (mi_okS_e) (mi_al_e) (fun h1 W _ hst => kon h1 W)
set_option maxRecDepth 20000 in
theorem mt_kttA {h : sm_H} {d : Nat} {Q : Option mi_V → sm_H → Prop} (hS : ab_Sh sx_sk h)  (k0 : (∀ h1, ab_Sh sx_sk h1 → mi_f h1 12544 = mi_f h 12032 → ab_Fr [(12544, 12545)] h h1 → me_E (d + 2) 93 10 [some (.inr (.inr 98)), some (.inr (.inr 94)), some (.inl ((0 : Int)))] [] h1 Q)) : me_E (d + 2) 93 0 [some (.inr (.inr 98)), some (.inr (.inr 94)), none] [] h Q := ms_kttA_0 hS (fun h1 W => (k0) h1 W.1 (W.2.1 12544) (W.2.2.2.2.2 _ rfl))
set_option maxRecDepth 20000 in
theorem mp_kttB_0 (h : sm_H) (d : Nat) (zk : Int) : mj_path [(93, (3, 0, sb_93)), (16, (3, 0, sb_16)), (49, (2, 1, sb_49))] sx_sk h 4 [1] (d + 2, 93, 10, [some (.inr (.inr 98)), some (.inr (.inr 94)), some (.inl (zk))], [], [], []) = some ((d + 2, 93, 72, [some (.inr (.inr 98)), some (.inr (.inr 94)), some (.inl (zk))], [], [], []), [(mi_f h 12544) ≤ zk]) := rfl
theorem mi_tab_kttB_0 : ∀ e ∈ ([(93, (3, 0, sb_93)), (16, (3, 0, sb_16)), (49, (2, 1, sb_49))] : mi_T), sc_P e.1 = some e.2 := mi_tb mi_P93 (mi_tb mi_P16 (mi_tb mi_P49 (mi_tb_e)))
set_option maxRecDepth 20000 in
theorem ms_kttB_0 {h : sm_H} {d : Nat} {Q : Option mi_V → sm_H → Prop} {zk : Int} (hS : ab_Sh sx_sk h) (ok_zk : mi_in zk) (ho : ((mi_f h 12544) ≤ zk)) (kon : ∀ h1, me_W [] h h1 → Q none h1) : me_E (d + 2) 93 10 [some (.inr (.inr 98)), some (.inr (.inr 94)), some (.inl (zk))] [] h Q := mf_seg (mp_kttB_0 h d zk) (mi_tab_kttB_0) hS (mi_okL_c (trivial) (mi_okL_c (trivial) (mi_okL_c (ok_zk) (mi_okL_e)))) (mi_okS_e) (mi_al (ho) (mi_al_e)) (fun h1 W _ hst => mf_ret (M := (3, 0, sb_93)) rfl rfl rfl hst (mi_al_e) (kon h1 W))
set_option maxRecDepth 20000 in
theorem mp_kttB_1 (h : sm_H) (d : Nat) (zk : Int) : mj_path [(93, (3, 0, sb_93)), (16, (3, 0, sb_16)), (49, (2, 1, sb_49))] sx_sk h 51 [0, 1, 1, 1, 1, 1, 1] (d + 2, 93, 10, [some (.inr (.inr 98)), some (.inr (.inr 94)), some (.inl (zk))], [], [], []) = some ((d + 2, 93, 10, [some (.inr (.inr 98)), some (.inr (.inr 94)), some (.inl (zk + 1))], [], [], []), [zk < (mi_f h 12544), zk < ((0 : Int)), zk < ((0 : Int)), zk < ((0 : Int)), zk < ((0 : Int)), zk < ((0 : Int)), zk < ((0 : Int)), -2147483648 ≤ zk + 1 ∧ zk + 1 ≤ 2147483647]) := rfl
theorem mi_tab_kttB_1 : ∀ e ∈ ([(93, (3, 0, sb_93)), (16, (3, 0, sb_16)), (49, (2, 1, sb_49))] : mi_T), sc_P e.1 = some e.2 := mi_tb mi_P93 (mi_tb mi_P16 (mi_tb mi_P49 (mi_tb_e)))
set_option maxRecDepth 20000 in
theorem ms_kttB_1 {h : sm_H} {d : Nat} {Q : Option mi_V → sm_H → Prop} {zk : Int} (hS : ab_Sh sx_sk h) (ok_zk : mi_in zk) (ho : (zk < (mi_f h 12544)) ∧ (zk < ((0 : Int))) ∧ (zk < ((0 : Int))) ∧ (zk < ((0 : Int))) ∧ (zk < ((0 : Int))) ∧ (zk < ((0 : Int))) ∧ (zk < ((0 : Int))) ∧ (-2147483648 ≤ zk + 1 ∧ zk + 1 ≤ 2147483647)) (kon : ∀ h1, me_W [] h h1 → me_E (d + 2) 93 10 [some (.inr (.inr 98)), some (.inr (.inr 94)), some (.inl (zk + 1))] [] h1 Q) : me_E (d + 2) 93 10 [some (.inr (.inr 98)), some (.inr (.inr 94)), some (.inl (zk))] [] h Q := mf_seg (mp_kttB_1 h d zk) (mi_tab_kttB_1) hS (mi_okL_c (trivial) (mi_okL_c (trivial) (mi_okL_c (ok_zk) (mi_okL_e)))) (mi_okS_e) (mi_al (ho.1) (mi_al (ho.2.1) (mi_al (ho.2.2.1) (mi_al (ho.2.2.2.1) (mi_al (ho.2.2.2.2.1) (mi_al (ho.2.2.2.2.2.1) (mi_al (ho.2.2.2.2.2.2.1) (mi_al (ho.2.2.2.2.2.2.2) (mi_al_e))))))))) (fun h1 W _ hst => kon h1 W)
set_option maxRecDepth 20000 in
theorem mp_kttB_2 (h : sm_H) (d : Nat) (zk : Int) : mj_path [(93, (3, 0, sb_93)), (16, (3, 0, sb_16)), (49, (2, 1, sb_49))] sx_sk h 75 [0, 0, 1, 0, 1, 0, 1, 0, 1, 0, 1, 0, 1] (d + 2, 93, 10, [some (.inr (.inr 98)), some (.inr (.inr 94)), some (.inl (zk))], [], [], []) = some ((d + 2, 93, 10, [some (.inr (.inr 98)), some (.inr (.inr 94)), some (.inl (zk + 1))], [], [], []), [zk < (mi_f h 12544), ((0 : Int)) ≤ zk, ((100 : Int)) ≤ zk, ((0 : Int)) ≤ zk, ((100 : Int)) ≤ zk, ((0 : Int)) ≤ zk, ((100 : Int)) ≤ zk, ((0 : Int)) ≤ zk, ((100 : Int)) ≤ zk, ((0 : Int)) ≤ zk, ((100 : Int)) ≤ zk, ((0 : Int)) ≤ zk, ((100 : Int)) ≤ zk, -2147483648 ≤ zk + 1 ∧ zk + 1 ≤ 2147483647]) := rfl
theorem mi_tab_kttB_2 : ∀ e ∈ ([(93, (3, 0, sb_93)), (16, (3, 0, sb_16)), (49, (2, 1, sb_49))] : mi_T), sc_P e.1 = some e.2 := mi_tb mi_P93 (mi_tb mi_P16 (mi_tb mi_P49 (mi_tb_e)))
set_option maxRecDepth 20000 in
theorem ms_kttB_2 {h : sm_H} {d : Nat} {Q : Option mi_V → sm_H → Prop} {zk : Int} (hS : ab_Sh sx_sk h) (ok_zk : mi_in zk) (ho : (zk < (mi_f h 12544)) ∧ (((0 : Int)) ≤ zk) ∧ (((100 : Int)) ≤ zk) ∧ (((0 : Int)) ≤ zk) ∧ (((100 : Int)) ≤ zk) ∧ (((0 : Int)) ≤ zk) ∧ (((100 : Int)) ≤ zk) ∧ (((0 : Int)) ≤ zk) ∧ (((100 : Int)) ≤ zk) ∧ (((0 : Int)) ≤ zk) ∧ (((100 : Int)) ≤ zk) ∧ (((0 : Int)) ≤ zk) ∧ (((100 : Int)) ≤ zk) ∧ (-2147483648 ≤ zk + 1 ∧ zk + 1 ≤ 2147483647)) (kon : ∀ h1, me_W [] h h1 → me_E (d + 2) 93 10 [some (.inr (.inr 98)), some (.inr (.inr 94)), some (.inl (zk + 1))] [] h1 Q) : me_E (d + 2) 93 10 [some (.inr (.inr 98)), some (.inr (.inr 94)), some (.inl (zk))] [] h Q := mf_seg (mp_kttB_2 h d zk) (mi_tab_kttB_2) hS (mi_okL_c (trivial) (mi_okL_c (trivial) (mi_okL_c (ok_zk) (mi_okL_e)))) (mi_okS_e) (mi_al (ho.1) (mi_al (ho.2.1) (mi_al (ho.2.2.1) (mi_al (ho.2.2.2.1) (mi_al (ho.2.2.2.2.1) (mi_al (ho.2.2.2.2.2.1) (mi_al (ho.2.2.2.2.2.2.1) (mi_al (ho.2.2.2.2.2.2.2.1) (mi_al (ho.2.2.2.2.2.2.2.2.1) (mi_al (ho.2.2.2.2.2.2.2.2.2.1) (mi_al (ho.2.2.2.2.2.2.2.2.2.2.1) (mi_al (ho.2.2.2.2.2.2.2.2.2.2.2.1) (mi_al (ho.2.2.2.2.2.2.2.2.2.2.2.2.1) (mi_al (ho.2.2.2.2.2.2.2.2.2.2.2.2.2) (mi_al_e))))))))))))))) (fun h1 W _ hst => kon h1 W)
set_option maxRecDepth 20000 in
theorem mp_kttB_3 (h : sm_H) (d : Nat) (zk : Int) : mj_path [(93, (3, 0, sb_93)), (16, (3, 0, sb_16)), (49, (2, 1, sb_49))] sx_sk h 96 [0, 0, 0, 0, 0, 0, 0, 0, 0, 0, 0, 0, 0] (d + 2, 93, 10, [some (.inr (.inr 98)), some (.inr (.inr 94)), some (.inl (zk))], [], [], []) = some ((d + 2, 93, 10, [some (.inr (.inr 98)), some (.inr (.inr 94)), some (.inl (zk + 1))], [], [.inr (.inr (.inl (101, Int.toNat zk, mi_a h 97 (Int.toNat zk)))), .inr (.inr (.inl (100, Int.toNat zk, mi_a h 96 (Int.toNat zk)))), .inr (.inr (.inl (99, Int.toNat zk, mi_a h 95 (Int.toNat zk))))], []), [zk < (mi_f h 12544), ((0 : Int)) ≤ zk, zk < ((100 : Int)), 0 ≤ zk ∧ zk < 100, ((0 : Int)) ≤ zk, zk < ((100 : Int)), 0 ≤ zk ∧ zk < 100, ((0 : Int)) ≤ zk, zk < ((100 : Int)), 0 ≤ zk ∧ zk < 100, ((0 : Int)) ≤ zk, zk < ((100 : Int)), 0 ≤ zk ∧ zk < 100, ((0 : Int)) ≤ zk, zk < ((100 : Int)), 0 ≤ zk ∧ zk < 100, ((0 : Int)) ≤ zk, zk < ((100 : Int)), 0 ≤ zk ∧ zk < 100, -2147483648 ≤ zk + 1 ∧ zk + 1 ≤ 2147483647]) := rfl
theorem mi_tab_kttB_3 : ∀ e ∈ ([(93, (3, 0, sb_93)), (16, (3, 0, sb_16)), (49, (2, 1, sb_49))] : mi_T), sc_P e.1 = some e.2 := mi_tb mi_P93 (mi_tb mi_P16 (mi_tb mi_P49 (mi_tb_e)))
set_option maxRecDepth 20000 in
theorem ms_kttB_3 {h : sm_H} {d : Nat} {Q : Option mi_V → sm_H → Prop} {zk : Int} (hS : ab_Sh sx_sk h) (ok_zk : mi_in zk) (ho : (zk < (mi_f h 12544)) ∧ (((0 : Int)) ≤ zk) ∧ (zk < ((100 : Int))) ∧ (0 ≤ zk ∧ zk < 100) ∧ (((0 : Int)) ≤ zk) ∧ (zk < ((100 : Int))) ∧ (0 ≤ zk ∧ zk < 100) ∧ (((0 : Int)) ≤ zk) ∧ (zk < ((100 : Int))) ∧ (0 ≤ zk ∧ zk < 100) ∧ (((0 : Int)) ≤ zk) ∧ (zk < ((100 : Int))) ∧ (0 ≤ zk ∧ zk < 100) ∧ (((0 : Int)) ≤ zk) ∧ (zk < ((100 : Int))) ∧ (0 ≤ zk ∧ zk < 100) ∧ (((0 : Int)) ≤ zk) ∧ (zk < ((100 : Int))) ∧ (0 ≤ zk ∧ zk < 100) ∧ (-2147483648 ≤ zk + 1 ∧ zk + 1 ≤ 2147483647)) (kon : ∀ h1, me_W [.inr (.inr (.inl (101, Int.toNat zk, mi_a h 97 (Int.toNat zk)))), .inr (.inr (.inl (100, Int.toNat zk, mi_a h 96 (Int.toNat zk)))), .inr (.inr (.inl (99, Int.toNat zk, mi_a h 95 (Int.toNat zk))))] h h1 → me_E (d + 2) 93 10 [some (.inr (.inr 98)), some (.inr (.inr 94)), some (.inl (zk + 1))] [] h1 Q) : me_E (d + 2) 93 10 [some (.inr (.inr 98)), some (.inr (.inr 94)), some (.inl (zk))] [] h Q := mf_seg (mp_kttB_3 h d zk) (mi_tab_kttB_3) hS (mi_okL_c (trivial) (mi_okL_c (trivial) (mi_okL_c (ok_zk) (mi_okL_e)))) (mi_okS_e) (mi_al (ho.1) (mi_al (ho.2.1) (mi_al (ho.2.2.1) (mi_al (ho.2.2.2.1) (mi_al (ho.2.2.2.2.1) (mi_al (ho.2.2.2.2.2.1) (mi_al (ho.2.2.2.2.2.2.1) (mi_al (ho.2.2.2.2.2.2.2.1) (mi_al (ho.2.2.2.2.2.2.2.2.1) (mi_al (ho.2.2.2.2.2.2.2.2.2.1) (mi_al (ho.2.2.2.2.2.2.2.2.2.2.1) (mi_al (ho.2.2.2.2.2.2.2.2.2.2.2.1) (mi_al (ho.2.2.2.2.2.2.2.2.2.2.2.2.1) (mi_al (ho.2.2.2.2.2.2.2.2.2.2.2.2.2.1) (mi_al (ho.2.2.2.2.2.2.2.2.2.2.2.2.2.2.1) (mi_al (ho.2.2.2.2.2.2.2.2.2.2.2.2.2.2.2.1) (mi_al (ho.2.2.2.2.2.2.2.2.2.2.2.2.2.2.2.2.1) (mi_al (ho.2.2.2.2.2.2.2.2.2.2.2.2.2.2.2.2.2.1) (mi_al (ho.2.2.2.2.2.2.2.2.2.2.2.2.2.2.2.2.2.2.1) (mi_al (ho.2.2.2.2.2.2.2.2.2.2.2.2.2.2.2.2.2.2.2) (mi_al_e))))))))))))))))))))) (fun h1 W _ hst => kon h1 W)
set_option maxRecDepth 20000 in
theorem mt_kttB {h : sm_H} {d : Nat} {Q : Option mi_V → sm_H → Prop} {zk : Int} (hS : ab_Sh sx_sk h) (ok_zk : mi_in zk) (k0 : ((-2147483648) ≤ mi_f h 12544 ∧ mi_f h 12544 ≤ 2147483647) → ((mi_f h 12544) ≤ zk) → (∀ h1, ab_Sh sx_sk h1 → ab_Fr [] h h1 → Q none h1)) (k1 : ((-2147483648) ≤ mi_f h 12544 ∧ mi_f h 12544 ≤ 2147483647) → (zk < (mi_f h 12544)) → (zk < ((0 : Int))) → ((-2147483648 ≤ zk + 1 ∧ zk + 1 ≤ 2147483647)) ∧ (∀ h1, ab_Sh sx_sk h1 → ab_Fr [] h h1 → me_E (d + 2) 93 10 [some (.inr (.inr 98)), some (.inr (.inr 94)), some (.inl (zk + 1))] [] h1 Q)) (k2 : ((-2147483648) ≤ mi_f h 12544 ∧ mi_f h 12544 ≤ 2147483647) → (zk < (mi_f h 12544)) → (((0 : Int)) ≤ zk) → (((100 : Int)) ≤ zk) → ((-2147483648 ≤ zk + 1 ∧ zk + 1 ≤ 2147483647)) ∧ (∀ h1, ab_Sh sx_sk h1 → ab_Fr [] h h1 → me_E (d + 2) 93 10 [some (.inr (.inr 98)), some (.inr (.inr 94)), some (.inl (zk + 1))] [] h1 Q)) (k3 : ((-2147483648) ≤ mi_f h 12544 ∧ mi_f h 12544 ≤ 2147483647) → (zk < (mi_f h 12544)) → (((0 : Int)) ≤ zk) → (zk < ((100 : Int))) → ((0 ≤ zk ∧ zk < 100) ∧ (-2147483648 ≤ zk + 1 ∧ zk + 1 ≤ 2147483647)) ∧ (∀ h1, ab_Sh sx_sk h1 → (∀ i, mi_a h1 99 i = if i = Int.toNat zk then mi_a h 95 (Int.toNat zk) else (mi_a h 99 i)) → (∀ i, mi_a h1 100 i = if i = Int.toNat zk then mi_a h 96 (Int.toNat zk) else (mi_a h 100 i)) → (∀ i, mi_a h1 101 i = if i = Int.toNat zk then mi_a h 97 (Int.toNat zk) else (mi_a h 101 i)) → ab_Fr [(12672, 12673), (12800, 12801), (12928, 12929)] h h1 → me_E (d + 2) 93 10 [some (.inr (.inr 98)), some (.inr (.inr 94)), some (.inl (zk + 1))] [] h1 Q)) : me_E (d + 2) 93 10 [some (.inr (.inr 98)), some (.inr (.inr 94)), some (.inl (zk))] [] h Q := Or.elim (mi_em .ge (zk) ((mi_f h 12544))) (fun c0 => ms_kttB_0 hS ok_zk (c0) (fun h1 W => (k0 (me_fb hS rfl) c0) h1 W.1 (W.2.2.2.2.2 _ rfl))) (fun c0 => Or.elim (mi_em .lt (zk) (((0 : Int)))) (fun c1 => ms_kttB_1 hS ok_zk ⟨c0, c1, c1, c1, c1, c1, c1, (k1 (me_fb hS rfl) c0 c1).1⟩ (fun h1 W => (k1 (me_fb hS rfl) c0 c1).2 h1 W.1 (W.2.2.2.2.2 _ rfl))) (fun c1 => Or.elim (mi_em .ge (zk) (((100 : Int)))) (fun c2 => ms_kttB_2 hS ok_zk ⟨c0, c1, c2, c1, c2, c1, c2, c1, c2, c1, c2, c1, c2, (k2 (me_fb hS rfl) c0 c1 c2).1⟩ (fun h1 W => (k2 (me_fb hS rfl) c0 c1 c2).2 h1 W.1 (W.2.2.2.2.2 _ rfl))) (fun c2 => ms_kttB_3 hS ok_zk ⟨c0, c1, c2, (k3 (me_fb hS rfl) c0 c1 c2).1.1, c1, c2, (k3 (me_fb hS rfl) c0 c1 c2).1.1, c1, c2, (k3 (me_fb hS rfl) c0 c1 c2).1.1, c1, c2, (k3 (me_fb hS rfl) c0 c1 c2).1.1, c1, c2, (k3 (me_fb hS rfl) c0 c1 c2).1.1, c1, c2, (k3 (me_fb hS rfl) c0 c1 c2).1.1, (k3 (me_fb hS rfl) c0 c1 c2).1.2⟩ (fun h1 W => (k3 (me_fb hS rfl) c0 c1 c2).2 h1 W.1 (fun i => W.2.2.1 99 i) (fun i => W.2.2.1 100 i) (fun i => W.2.2.1 101 i) (W.2.2.2.2.2 _ rfl)))))
set_option maxRecDepth 20000 in
theorem mp_kkeA_0 (h : sm_H) (d : Nat) : mj_path [(92, (1, 4, sb_92))] sx_sk h 8 [1] (d + 3, 92, 0, [some (.inr (.inr 51))], [], [], []) = some ((d + 3, 92, 20, [some (.inr (.inr 51))], [.inr (.inr 94), .inr (.inr 98)], [], []), [(mi_f h 12032) ≠ ((0 : Int))]) := rfl
theorem mi_tab_kkeA_0 : ∀ e ∈ ([(92, (1, 4, sb_92))] : mi_T), sc_P e.1 = some e.2 := mi_tb mi_P92 (mi_tb_e)
set_option maxRecDepth 20000 in
theorem ms_kkeA_0 {h : sm_H} {d : Nat} {Q : Option mi_V → sm_H → Prop} (hS : ab_Sh sx_sk h)  (ho : ((mi_f h 12032) ≠ ((0 : Int)))) (kon : ∀ h1, me_W [] h h1 → ∃ Q1, me_E (d + 2) 93 0 (mi_entry 3 [.inr (.inr 98), .inr (.inr 94)]) [] h1 Q1 ∧ ∀ w h2, (∀ x, w = some x → mi_ok x) → Q1 w h2 → me_E (d + 3) 92 23 [some (.inr (.inr 51))] (mi_back w []) h2 Q) : me_E (d + 3) 92 0 [some (.inr (.inr 51))] [] h Q := mf_seg (mp_kkeA_0 h d ) (mi_tab_kkeA_0) hS (mi_okL_c (trivial) (mi_okL_e)) (mi_okS_e) (mi_al (ho) (mi_al_e)) (fun h1 W _ hst => let ⟨_, k1, k2⟩ := kon h1 W; mf_call (M := (1, 4, sb_92)) (M' := (3, 0, sb_93)) rfl rfl rfl rfl (Nat.le_of_ble_eq_true rfl) (Nat.le_of_ble_eq_true rfl) W.1 k1 k2)
set_option maxRecDepth 20000 in
theorem mp_kkeA_1 (h : sm_H) (d : Nat) : mj_path [(92, (1, 4, sb_92))] sx_sk h 5 [0] (d + 3, 92, 0, [some (.inr (.inr 51))], [], [], []) = some ((d + 3, 92, 11, [some (.inr (.inr 51))], [.inl ((0 : Int))], [], []), [(mi_f h 12032) = ((0 : Int))]) := rfl
theorem mi_tab_kkeA_1 : ∀ e ∈ ([(92, (1, 4, sb_92))] : mi_T), sc_P e.1 = some e.2 := mi_tb mi_P92 (mi_tb_e)
set_option maxRecDepth 20000 in
theorem ms_kkeA_1 {h : sm_H} {d : Nat} {Q : Option mi_V → sm_H → Prop} (hS : ab_Sh sx_sk h)  (ho : ((mi_f h 12032) = ((0 : Int))) ∧ (((0 : Int)) = 0 ∨ ((0 : Int)) = 1)) (kon : ∀ h1, me_W [] h h1 → Q (some (.inl ((0 : Int)))) h1) : me_E (d + 3) 92 0 [some (.inr (.inr 51))] [] h Q := mf_seg (mp_kkeA_1 h d ) (mi_tab_kkeA_1) hS (mi_okL_c (trivial) (mi_okL_e)) (mi_okS_e) (mi_al (ho.1) (mi_al_e)) (fun h1 W _ hst => mf_ret (M := (1, 4, sb_92)) rfl rfl rfl hst (mi_al (ho.2) mi_al_e) (kon h1 W))
set_option maxRecDepth 20000 in
theorem mt_kkeA {h : sm_H} {d : Nat} {Q : Option mi_V → sm_H → Prop} (hS : ab_Sh sx_sk h)  (k0 : ((-2147483648) ≤ mi_f h 12032 ∧ mi_f h 12032 ≤ 2147483647) → ((mi_f h 12032) ≠ ((0 : Int))) → (∀ h1, ab_Sh sx_sk h1 → ab_Fr [] h h1 → ∃ Q1, me_E (d + 2) 93 0 (mi_entry 3 [.inr (.inr 98), .inr (.inr 94)]) [] h1 Q1 ∧ ∀ w h2, (∀ x, w = some x → mi_ok x) → Q1 w h2 → me_E (d + 3) 92 23 [some (.inr (.inr 51))] (mi_back w []) h2 Q)) (k1 : ((-2147483648) ≤ mi_f h 12032 ∧ mi_f h 12032 ≤ 2147483647) → ((mi_f h 12032) = ((0 : Int))) → (∀ h1, ab_Sh sx_sk h1 → ab_Fr [] h h1 → Q (some (.inl ((0 : Int)))) h1)) : me_E (d + 3) 92 0 [some (.inr (.inr 51))] [] h Q := Or.elim (mi_em .ne ((mi_f h 12032)) (((0 : Int)))) (fun c0 => ms_kkeA_0 hS (c0) (fun h1 W => (k0 (me_fb hS rfl) c0) h1 W.1 (W.2.2.2.2.2 _ rfl))) (fun c0 => ms_kkeA_1 hS ⟨c0, (by decide)⟩ (fun h1 W => (k1 (me_fb hS rfl) c0) h1 W.1 (W.2.2.2.2.2 _ rfl)))
set_option maxRecDepth 20000 in
theorem mp_kkeB_0 (h : sm_H) (d : Nat) : mj_path [(92, (1, 4, sb_92))] sx_sk h 1 [] (d + 3, 92, 23, [some (.inr (.inr 51))], [], [], []) = some ((d + 3, 92, 24, [some (.inr (.inr 51))], [.inl ((1 : Int))], [], []), []) := rfl
theorem mi_tab_kkeB_0 : ∀ e ∈ ([(92, (1, 4, sb_92))] : mi_T), sc_P e.1 = some e.2 := mi_tb mi_P92 (mi_tb_e)
set_option maxRecDepth 20000 in
theorem ms_kkeB_0 {h : sm_H} {d : Nat} {Q : Option mi_V → sm_H → Prop} (hS : ab_Sh sx_sk h)  (ho : (((1 : Int)) = 0 ∨ ((1 : Int)) = 1)) (kon : ∀ h1, me_W [] h h1 → Q (some (.inl ((1 : Int)))) h1) : me_E (d + 3) 92 23 [some (.inr (.inr 51))] [] h Q := mf_seg (mp_kkeB_0 h d ) (mi_tab_kkeB_0) hS (mi_okL_c (trivial) (mi_okL_e)) (mi_okS_e) (mi_al_e) (fun h1 W _ hst => mf_ret (M := (1, 4, sb_92)) rfl rfl rfl hst (mi_al (ho) mi_al_e) (kon h1 W))
set_option maxRecDepth 20000 in
theorem mt_kkeB {h : sm_H} {d : Nat} {Q : Option mi_V → sm_H → Prop} (hS : ab_Sh sx_sk h)  (k0 : (∀ h1, ab_Sh sx_sk h1 → ab_Fr [] h h1 → Q (some (.inl ((1 : Int)))) h1)) : me_E (d + 3) 92 23 [some (.inr (.inr 51))] [] h Q := ms_kkeB_0 hS ((by decide)) (fun h1 W => (k0) h1 W.1 (W.2.2.2.2.2 _ rfl))
