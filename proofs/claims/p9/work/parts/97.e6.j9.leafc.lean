/-! the class prints a tree's nodes: rows, leaves, behind -/
/-- nodes in the rows of the class's tree, from the q-th on -/
def rh (h : sm_H) (q : Nat) (A : List (Int × Int × Int)) : Prop := (∀ k : Nat, k < A.length → (A.map (fun x => x.2.1))[k]? = some (mi_a h 96 (q + k))) ∧ ∀ k : Nat, k < A.length → (sz A)[k]? = some (mi_a h 97 (q + k))
theorem rh_fr {h h' : sm_H} {q : Nat} {A : List (Int × Int × Int)} {wr : List (Nat × Nat)} (hr : rh h q A) (hF : ab_Fr wr h h') (hS : ab_Sh sx_sk h) (hw : (ab_in wr 12288 || ab_in wr 12416) = false) : rh h' q A := by
  simp only [Bool.or_eq_false_iff] at hw
  exact ⟨fun k hk => by rw [me_a (k := 96) hF hS rfl hw.1]; exact hr.1 k hk, fun k hk => by rw [me_a (k := 97) hF hS rfl hw.2]; exact hr.2 k hk⟩
theorem rh_app {h : sm_H} {q : Nat} {D : Int} {A B : List (Int × Int × Int)} (fA : fo D A) (fB : fo D B) (hr : rh h q (A ++ B)) : rh h q A ∧ rh h (q + A.length) B := by
  have lA : (A.map (fun x => x.2.1)).length = A.length := List.length_map _
  refine ⟨⟨fun k hk => ?_, fun k hk => ?_⟩, fun k hk => ?_, fun k hk => ?_⟩
  · have := hr.1 k (by rw [List.length_append]; omega)
    rw [List.map_append, List.getElem?_append_left (by omega)] at this
    exact this
  · have := hr.2 k (by rw [List.length_append]; omega)
    rw [sz_app fB A fA.1, List.getElem?_append_left (by rw [sz_len]; exact hk)] at this
    exact this
  · have := hr.1 (A.length + k) (by rw [List.length_append]; omega)
    rw [List.map_append, List.getElem?_append_right (by omega), lA, Nat.add_sub_cancel_left, ← Nat.add_assoc] at this
    exact this
  · have := hr.2 (A.length + k) (by rw [List.length_append]; omega)
    rw [sz_app fB A fA.1, List.getElem?_append_right (by rw [sz_len]; omega), sz_len, Nat.add_sub_cancel_left, ← Nat.add_assoc] at this
    exact this
theorem rh_cons {h : sm_H} {q : Nat} {D k v : Int} {B : List (Int × Int × Int)} (fB : fo (D + 1) B) (hr : rh h q ((k, v, D) :: B)) : mi_a h 96 q = v ∧ mi_a h 97 q = (B.length : Int) ∧ rh h (q + 1) B := by
  refine ⟨?_, ?_, fun j hj => ?_, fun j hj => ?_⟩
  · have := hr.1 0 (Nat.succ_pos _)
    have this : some v = some (mi_a h 96 q) := this
    injection this with this
    exact this.symm
  · have := hr.2 0 (Nat.succ_pos _)
    rw [sz_cons fB] at this
    have this : some (B.length : Int) = some (mi_a h 97 q) := this
    injection this with this
    exact this.symm
  · have := hr.1 (j + 1) (Nat.succ_lt_succ hj)
    rw [Nat.add_assoc, Nat.add_comm 1 j]
    exact this
  · have := hr.2 (j + 1) (Nat.succ_lt_succ hj)
    rw [sz_cons fB] at this
    rw [Nat.add_assoc, Nat.add_comm 1 j]
    exact this
theorem sz_drop : ∀ (k : Nat) (A : List (Int × Int × Int)), sz (A.drop k) = (sz A).drop k := by
  intro k
  induction k with
  | zero => intro A; rfl
  | succ k ih =>
    intro A
    cases A with
    | nil => rfl
    | cons x A => exact ih A
theorem rh_drop {h : sm_H} {q k : Nat} {A : List (Int × Int × Int)} (hr : rh h q A) : rh h (q + k) (A.drop k) := by
  refine ⟨fun j hj => ?_, fun j hj => ?_⟩
  · rw [List.length_drop] at hj
    rw [List.map_drop, List.getElem?_drop, hr.1 (k + j) (by omega), Nat.add_assoc]
  · rw [List.length_drop] at hj
    rw [sz_drop, List.getElem?_drop, hr.2 (k + j) (by omega), Nat.add_assoc]
/-- the first of some nodes side by side, with all that is in it -/
theorem fo_first {h : sm_H} {q : Nat} {D : Int} {x : Int × Int × Int} {A : List (Int × Int × Int)} (hf : fo D (x :: A)) (hr : rh h q (x :: A)) : ∃ (j : Nat) (C : List (Int × Int × Int)), A.length = j + C.length ∧ mi_a h 97 q = (j : Int) ∧ fo D C ∧ tpc D (x :: A) = 1 + tpc D C ∧ rh h (q + (1 + j)) C := by
  have hx := hf.2 x A rfl
  obtain ⟨B, hB⟩ : ∃ B, B = A.takeWhile (fun y => decide (D < y.2.2)) := ⟨_, rfl⟩
  obtain ⟨C, hC⟩ : ∃ C, C = A.dropWhile (fun y => decide (D < y.2.2)) := ⟨_, rfl⟩
  have e : A = B ++ C := by rw [hB, hC, List.takeWhile_append_dropWhile]
  have hBl : ∀ y ∈ B, D < y.2.2 := fun y hy => by
    rw [hB] at hy
    have := List.all_eq_true.mp List.all_takeWhile y hy
    rw [decide_eq_true_eq] at this
    exact this
  have fC : fo D C := by
    refine ⟨fun y hy => hf.1 y (List.mem_cons_of_mem _ (by rw [e]; exact List.mem_append_right _ hy)), fun y R hR => ?_⟩
    have h1 : D ≤ y.2.2 := hf.1 y (List.mem_cons_of_mem _ (by rw [e, hR]; exact List.mem_append_right _ List.mem_cons_self))
    have h2 : ¬ D < y.2.2 := by
      intro q
      have h3 : C.head? = some y := by rw [hR]; rfl
      have h4 := List.head?_dropWhile_not (fun y => decide (D < y.2.2)) A
      rw [← hC, h3] at h4
      dsimp only at h4
      rw [decide_eq_false_iff_not] at h4
      exact h4 q
    omega
  refine ⟨B.length, C, by rw [e, List.length_append], ?_, fC, ?_, ?_⟩
  · have := hr.2 0 (Nat.succ_pos _)
    have this : some (((A.takeWhile (fun y => decide (x.2.2 < y.2.2))).length : Int)) = some (mi_a h 97 q) := this
    injection this with this
    rw [← this, hx, hB]
  · have e1 : x :: A = [x] ++ (B ++ C) := by rw [e]; rfl
    rw [e1, tpc_app, tpc_app]
    have t1 : tpc D [x] = 1 := by
      unfold tpc
      rw [List.filter_cons, if_pos (by rw [decide_eq_true_eq]; exact hx)]
      rfl
    have t2 : tpc D B = 0 := by
      unfold tpc
      rw [List.filter_eq_nil_iff.mpr (fun y hy => by
        have := hBl y hy
        rw [decide_eq_true_eq]
        omega)]
      rfl
    rw [t1, t2]
    omega
  · have := rh_drop (k := 1 + B.length) hr
    have e2 : (x :: A).drop (1 + B.length) = C := by
      rw [Nat.add_comm, List.drop_succ_cons, e, List.drop_left]
    rw [e2] at this
    exact this
theorem tpc_nn {D : Int} {A : List (Int × Int × Int)} : 0 ≤ tpc D A := by
  unfold tpc
  omega
section CBH
variable {d : Nat} {h : sm_H}
theorem cb5 {zf zm D : Int} (hS : ab_Sh sx_sk h) (of : mi_in zf) (om : mi_in zm) (n1 : mi_f h 12032 ≤ 100) : ∀ (m : Nat) (zn : Int) (k : Nat) (R : List (Int × Int × Int)), zm - zn = m → 0 ≤ zn → rh h k R → fo D R → tpc D R = m → (k : Int) + R.length ≤ mi_f h 12032 → me_E (d + 3) 129 5 [some (.inr (.inr 94)), some (.inl zf), some (.inl zm), some (.inl (k : Int)), some (.inl zn)] [] h (fun w h' => w = some (.inl ((k + R.length : Nat) : Int)) ∧ h' = h) := by
  intro m
  induction m with
  | zero =>
    intro zn k R hm z0 hr hf ht hk
    have ok : mi_in (k : Int) := ⟨by omega, by omega⟩
    have on : mi_in zn := by
      unfold mi_in at om ⊢
      omega
    refine mt_kobB hS of om ok on ?_ (by intros; exfalso; omega) (by intros; exfalso; omega) (by intros; exfalso; omega) (by intros; exfalso; omega)
    intro c h1 g1 g2
    have e := me_nil g2
    subst e
    cases R with
    | nil => exact ⟨rfl, rfl⟩
    | cons x R =>
      exfalso
      obtain ⟨j, C, -, -, -, q, -⟩ := fo_first hf hr
      have := tpc_nn (D := D) (A := C)
      omega
  | succ m ih =>
    intro zn k R hm z0 hr hf ht hk
    have on : mi_in zn := by
      unfold mi_in at om ⊢
      omega
    cases R with
    | nil =>
      have : tpc D [] = 0 := rfl
      omega
    | cons x R =>
      obtain ⟨j, C, q1, q2, q3, q4, q5⟩ := fo_first hf hr
      rw [List.length_cons] at hk
      have ok : mi_in (k : Int) := ⟨by omega, by omega⟩
      refine mt_kobB hS of om ok on (by intros; exfalso; omega) (by intros; exfalso; omega) (by intros; exfalso; omega) (by intros; exfalso; omega) ?_
      intro b c1 c2 c3 c4
      have et : Int.toNat (k : Int) = k := Int.toNat_natCast _
      rw [et, q2]
      unfold mi_in at om
      refine ⟨⟨⟨by omega, by omega⟩, ⟨by omega, by omega⟩, ⟨by omega, by omega⟩, by omega, by omega⟩, fun h1 g1 g2 => ?_⟩
      have e := me_nil g2
      subst e
      have e1 : (k : Int) + (1 + (j : Int)) = ((k + (1 + j) : Nat) : Int) := by omega
      rw [e1]
      refine (ih (zn + 1) (k + (1 + j)) C (by omega) (by omega) q5 q3 (by omega) (by omega)).imp (fun w h' hq => ⟨?_, hq.2⟩)
      rw [hq.1]
      refine congrArg (fun i : Nat => some (Sum.inl (i : Int) : mi_V)) ?_
      rw [List.length_cons]
      omega
/-- the place behind -/
theorem me_behindc {q : Nat} {D zm : Int} {A : List (Int × Int × Int)} (hS : ab_Sh sx_sk h) (hr : rh h q A) (hf : fo D A) (ht : tpc D A = zm) (n1 : mi_f h 12032 ≤ 100) (hk : (q : Int) + A.length ≤ mi_f h 12032) (om : mi_in zm) : me_E (d + 3) 129 0 [some (.inr (.inr 94)), some (.inl (q : Int)), some (.inl zm), none, none] [] h (fun w h' => w = some (.inl ((q + A.length : Nat) : Int)) ∧ h' = h) := by
  have of : mi_in (q : Int) := ⟨by omega, by omega⟩
  refine mt_kobA hS of om ?_
  intro h1 g1 g2
  have e := me_nil g2
  subst e
  have := tpc_nn (D := D) (A := A)
  exact cb5 (D := D) g1 of om n1 zm.toNat 0 q A (by omega) (by decide) hr hf (by omega) hk
end CBH
/-! leaves -/
theorem sh_mod4 {z : Int} (h0 : 0 ≤ z) (h1 : z ≤ 1000000) : (Int32.ofInt z - Int32.ofInt z / Int32.ofInt ((10000 : Int)) * Int32.ofInt ((10000 : Int))).toInt = z % 10000 := by
  have e10 : (Int32.ofInt ((10000 : Int))).toInt = 10000 := rfl
  have ez : (Int32.ofInt z).toInt = z := mi_ti ⟨by omega, by omega⟩
  have ed := sh_divg (w := 10000) h0 h1 (by decide) (by decide)
  have em : (Int32.ofInt z / Int32.ofInt ((10000 : Int)) * Int32.ofInt ((10000 : Int))).toInt = z / 10000 * 10000 := by
    rw [Int32.toInt_mul, ed, e10]
    exact Int.bmod_eq_of_le (by omega) (by omega)
  rw [Int32.toInt_sub, ez, em]
  rw [Int.bmod_eq_of_le (by omega) (by omega)]
  omega
def wr_pw : List (Nat × Nat) := [(7425, 7426), (7552, 7553), (13827, 13828), (13829, 13830), (13831, 13837)]
/-- what the class knows of numbers, literals, tops -/
def vpp_G (Lr : Nat → Int) (g : wk_g) (Y : wk_Y) (h : sm_H) : Prop := (∀ p, 0 ≤ p → p < wk_u Y → (g 119 p.toNat = 1 → mi_a h 69 p.toNat = g 120 p.toNat ∧ 0 ≤ g 120 p.toNat ∧ g 120 p.toNat ≤ 9) ∧ (g 119 p.toNat = 8 → mi_a h 69 p.toNat = g 120 p.toNat ∧ (0 ≤ g 120 p.toNat ∧ g 120 p.toNat < 20) ∧ mi_a h 75 (g 120 p.toNat).toNat = Lr (g 120 p.toNat).toNat ∧ ((0 < Lr (g 120 p.toNat).toNat ∧ lgd 6 (Lr (g 120 p.toNat).toNat)) ∨ (Lr (g 120 p.toNat).toNat < 0 ∧ tx_alc (-(Lr (g 120 p.toNat).toNat)) ∧ wy (-(Lr (g 120 p.toNat).toNat)) = false)))) ∧ tt_G (fun p => mi_a h 92 p.toNat) g Y
theorem vpp_G_fr {Lr : Nat → Int} {g : wk_g} {Y : wk_Y} {h h' : sm_H} {wr : List (Nat × Nat)} (hG : vpp_G Lr g Y h) (hF : ab_Fr wr h h') (hS : ab_Sh sx_sk h) (hw : (ab_in wr 8832 || ab_in wr 9600 || ab_in wr 11776) = false) : vpp_G Lr g Y h' := by
  simp only [Bool.or_eq_false_iff] at hw
  have e92 : (fun p : Int => mi_a h' 92 p.toNat) = fun p : Int => mi_a h 92 p.toNat := funext fun p => me_a (k := 92) hF hS rfl hw.2
  refine ⟨fun p p0 p1 => ?_, by rw [e92]; exact hG.2⟩
  rw [me_a (k := 69) hF hS rfl hw.1.1, me_a (k := 75) hF hS rfl hw.1.2]
  exact hG.1 p p0 p1
/-- values that can be printed -/
def vpp_e (g : wk_g) (e : Int × Int) : Prop := (g 119 e.1.toNat = 1 → 0 ≤ e.2 ∧ e.2 ≤ 9999) ∧ (g 119 e.1.toNat = 2 → 0 < e.2 ∧ lgd 6 e.2)
def vpp_in (h : sm_H) (u : Int) (q : Nat) (o : ox) : Prop := ab_Sh sx_sk h ∧ oC h (some o) ∧ oCw h (some o) ∧ mi_f h 13829 = u ∧ mi_f h 13831 = (q : Int) ∧ 0 ≤ mi_f h 13832
def vq (Lr : Nat → Int) (g : wk_g) (h0 : sm_H) (u : Int) (q : Nat) (L : List (Int × Int)) (x : Option ox) (w : Option mi_V) (h' : sm_H) : Prop := w = none ∧ ab_Sh sx_sk h' ∧ ab_Fr wr_pw h0 h' ∧ mi_f h' 13829 = u ∧ oC h' (ofd Lr g L x) ∧ oCw h' (ofd Lr g L x) ∧ (0 ≤ mi_f h' 13832 ∧ mi_f h' 13832 ≤ mi_f h0 13832 + L.length) ∧ (ofd Lr g L x ≠ none → mi_f h' 13831 = (q : Int))
theorem oCw_fr {h h' : sm_H} {x : Option ox} {wr : List (Nat × Nat)} (hR : oCw h x) (hF : ab_Fr wr h h') (hS : ab_Sh sx_sk h) (hw : ab_in wr 13835 = false) : oCw h' x := fun o ho hn => by
  rw [me_f (c := 13835) hF hS rfl hw]
  exact hR o ho hn
section CLF
variable {Lr : Nat → Int} {g : wk_g} {Y : wk_Y} {d : Nat} {h : sm_H} {u p v : Int} {q : Nat} {o : ox}
theorem ofd_one {x : Option ox} : ofd Lr g [(p, v)] x = x.bind (oev Lr (g 119 p.toNat) (g 120 p.toNat) v) := rfl
/-- what is no token -/
theorem oC_ly {h1 : sm_H} {s : Int} {wr : List (Nat × Nat)} (hS : ab_Sh sx_sk h) (hR : oC h (some o)) (hW : oCw h (some o)) (hF : ab_Fr wr h h1) (hw : (ab_in wr 7425 || ab_in wr 7552 || ab_in wr 13827 || ab_in wr 13835 || ab_in wr 13836) = false) (e4 : mi_f h1 13834 = (oly s o).2.1) (e3 : mi_f h1 13833 = (oly s o).2.2.1) (e2 : mi_f h1 13832 = (oly s o).2.2.2) : oC h1 (some (oly s o)) ∧ oCw h1 (some (oly s o)) := by
  simp only [Bool.or_eq_false_iff] at hw
  obtain ⟨⟨⟨⟨w1, w2⟩, w3⟩, w4⟩, w5⟩ := hw
  obtain ⟨a, b, c1, c2, c3, c4, c5⟩ := oC_len hR
  refine ⟨Or.inr ⟨_, rfl, (me_f (c := 13827) hF hS rfl w3).trans a, (me_f (c := 13836) hF hS rfl w5).trans b, (me_f (c := 7425) hF hS rfl w1).trans c1, fun k hk => by rw [me_a (k := 59) hF hS rfl w2]; exact c2 k hk, e4, e3, e2⟩, fun o' ho hn => ?_⟩
  injection ho with ho
  subst ho
  rw [me_f (c := 13835) hF hS rfl w4]
  exact hW o rfl hn
theorem me_wleaf (hi : vpp_in h u q o) (hu : wk_u Y ≤ 60) (hG : vpp_G Lr g Y h) (e68 : mi_a h 68 p.toNat = g 119 p.toNat) (p0 : 0 ≤ p) (p1 : p < wk_u Y) (h9 : g 119 p.toNat ≠ 9) (h10 : g 119 p.toNat ≠ 10) (hv : vpp_e g (p, v)) (hr : (g 119 p.toNat = 1 ∨ g 119 p.toNat = 2) → q < 100 ∧ mi_a h 96 q = v) (hl : mi_f h 13832 + 1 ≤ 100000) : me_E (d + 4) 136 0 [some (.inr (.inr 108)), some (.inl p), none] [] h (vq Lr g h u (if g 119 p.toNat = 1 ∨ g 119 p.toNat = 2 then q + 1 else q) [(p, v)] (some o)) := by
  obtain ⟨hS, hR, hW, hU, hq, l0⟩ := hi
  have op : mi_in p := ⟨by omega, by omega⟩
  have o69 : mi_in (mi_a h 69 p.toNat) := mi_inT _
  obtain ⟨n1, n8⟩ := hG.1 p p0 p1
  have e1 : ofd Lr g [(p, v)] (some o) = oev Lr (g 119 p.toNat) (g 120 p.toNat) v o := rfl
  obtain ⟨-, -, c1, c2, c3, c4, c5⟩ := oC_len hR
  refine mt_kolA hS op (by intros; exfalso; omega) (by intros; exfalso; omega) ?_
  intro b1 b2
  refine ⟨⟨by omega, by omega⟩, fun h1 g1 g2 => ?_⟩
  have e := me_nil g2
  subst e
  rw [e68]
  -- what is no token
  have ly : ∀ (h2 : sm_H) (wr : List (Nat × Nat)), (g 119 p.toNat ≠ 1 ∧ g 119 p.toNat ≠ 2 ∧ g 119 p.toNat ≠ 8) → ab_Sh sx_sk h2 → ab_Fr wr h1 h2 → ab_Fr wr_pw h1 h2 → ab_in wr 13829 = false → ab_in wr 13831 = false → (ab_in wr 7425 || ab_in wr 7552 || ab_in wr 13827 || ab_in wr 13835 || ab_in wr 13836) = false → mi_f h2 13834 = (oly (g 119 p.toNat) o).2.1 → mi_f h2 13833 = (oly (g 119 p.toNat) o).2.2.1 → mi_f h2 13832 = (oly (g 119 p.toNat) o).2.2.2 → (0 ≤ mi_f h2 13832 ∧ mi_f h2 13832 ≤ mi_f h1 13832 + 1) → vq Lr g h1 u (if g 119 p.toNat = 1 ∨ g 119 p.toNat = 2 then q + 1 else q) [(p, v)] (some o) none h2 := by
    intro h2 wr n s2 F2 F2' w1 w2 w3 x4 x3 x2 x1
    have eo : ofd Lr g [(p, v)] (some o) = some (oly (g 119 p.toNat) o) := by
      rw [e1]
      unfold oev
      rw [if_neg (by omega)]
    obtain ⟨y1, y2⟩ := oC_ly (s := g 119 p.toNat) g1 hR hW F2 w3 x4 x3 x2
    refine ⟨rfl, s2, F2', (me_f (c := 13829) F2 g1 rfl w1).trans hU, by rw [eo]; exact y1, by rw [eo]; exact y2, x1, fun _ => ?_⟩
    rw [if_neg (by omega)]
    exact (me_f (c := 13831) F2 g1 rfl w2).trans hq
  -- a token
  have tk : ∀ (h1' h2 : sm_H) (W : List Int) (qn : Nat), (g 119 p.toNat = 1 ∨ g 119 p.toNat = 2 ∨ g 119 p.toNat = 8) → tkw Lr (g 119 p.toNat) (g 120 p.toNat) v = W → ab_Sh sx_sk h1' → ab_Fr [(13831, 13832)] h1 h1' → mi_f h1' 13831 = (qn : Int) → (if g 119 p.toNat = 1 ∨ g 119 p.toNat = 2 then q + 1 else q) = qn → ab_Sh sx_sk h2 → ab_Fr wr_cs h1' h2 → oC h2 ((some o).bind (otk W)) → oCw h2 ((some o).bind (otk W)) → vq Lr g h1 u (if g 119 p.toNat = 1 ∨ g 119 p.toNat = 2 then q + 1 else q) [(p, v)] (some o) none h2 := by
    intro h1' h2 W qn n ew s1 F1 e31 eq s2 F2 y1 y2
    have eo : ofd Lr g [(p, v)] (some o) = (some o).bind (otk W) := by
      rw [e1]
      unfold oev
      rw [if_pos n, ew]
      rfl
    have el : mi_f h2 13832 = mi_f h1 13832 := (me_f (c := 13832) F2 s1 rfl rfl).trans (me_f (c := 13832) F1 g1 rfl rfl)
    refine ⟨rfl, s2, (F1.wide (fun c hc => ab_swr_ok (by decide) hc)).trans (F2.wide (fun c hc => ab_swr_ok (by decide) hc)), ((me_f (c := 13829) F2 s1 rfl rfl).trans (me_f (c := 13829) F1 g1 rfl rfl)).trans hU, by rw [eo]; exact y1, by rw [eo]; exact y2, ⟨by omega, by rw [el]; show mi_f h1 13832 ≤ mi_f h1 13832 + 1; omega⟩, fun _ => ?_⟩
    rw [eq]
    exact (me_f (c := 13831) F2 s1 rfl rfl).trans e31
  have e31 : ∀ h2, ab_Fr [(13831, 13832)] h1 h2 → oC h2 (some o) ∧ oCw h2 (some o) ∧ mi_f h2 13832 = mi_f h1 13832 := fun h2 F => ⟨oC_fr hR F g1 rfl, oCw_fr hW F g1 rfl, me_f (c := 13832) F g1 rfl rfl⟩
  have os : mi_in (g 119 p.toNat) := by rw [← e68]; exact mi_inT _
  have ol4 : oly (g 119 p.toNat) o = (o.1, if g 119 p.toNat = 4 then 1 else o.2.1, if g 119 p.toNat = 5 then 1 else o.2.2.1, if g 119 p.toNat = 6 then o.2.2.2 + 1 else if g 119 p.toNat = 7 ∧ 0 < o.2.2.2 then o.2.2.2 - 1 else o.2.2.2) := rfl
  refine mt_kolB g1 op o69 os (by intros; exfalso; omega) (by intros; exfalso; omega) ?_ (by intros; exfalso; omega) (by intros; exfalso; omega) ?_ ?_ ?_ ?_ ?_ ?_ ?_ (by intros; exfalso; omega) (by intros; exfalso; omega) ?_ ?_
  · -- a number
    intro a1 a2 a3 a4
    have s1 : g 119 p.toNat = 1 := by omega
    obtain ⟨m1, m2, m3⟩ := n1 s1
    obtain ⟨r1, r2⟩ := hr (Or.inl s1)
    obtain ⟨v0, v1⟩ := hv.1 s1
    dsimp only at v0 v1
    have et : Int.toNat (mi_f h1 13831 + 1 - 1) = q := by omega
    rw [et, r2, m1]
    refine ⟨⟨⟨by omega, by omega⟩, ⟨by omega, by omega⟩, ⟨by omega, by omega⟩, ⟨by omega, by omega⟩, by omega, by omega⟩, fun h2 s2 x1 x2 => ?_⟩
    have em : (Int32.ofInt (v - g 120 p.toNat + ((10000 : Int))) - Int32.ofInt (v - g 120 p.toNat + ((10000 : Int))) / Int32.ofInt ((10000 : Int)) * Int32.ofInt ((10000 : Int))).toInt = (v - g 120 p.toNat + 10000) % 10000 := sh_mod4 (by omega) (by omega)
    rw [em]
    obtain ⟨y1, y2, y3⟩ := e31 h2 x2
    refine ⟨_, me_numc (d := d) s2 (by omega) (by omega) (by omega) (by omega) y1 y2, fun w h3 hw hq3 => ?_⟩
    obtain ⟨rfl, z1, z2, z3, z4⟩ := hq3
    refine mt_kolC z1 op (by rw [← m1]; exact o69) ?_
    intro h4 k1 k2
    have e := me_nil k2
    subst e
    refine tk h2 h4 _ (q + 1) (Or.inl s1) ?_ s2 x2 (by omega) (if_pos (Or.inl s1)) z1 z2 z3 z4
    unfold tkw
    rw [if_neg (by omega), if_neg (by omega)]
  · -- a name
    intro a1 a2 a3 a4
    have s1 : g 119 p.toNat = 2 := by omega
    obtain ⟨r1, r2⟩ := hr (Or.inr s1)
    obtain ⟨v0, v1⟩ := hv.2 s1
    dsimp only at v0 v1
    have et : Int.toNat (mi_f h1 13831 + 1 - 1) = q := by omega
    rw [et, r2]
    refine ⟨⟨⟨by omega, by omega⟩, ⟨by omega, by omega⟩, by omega, by omega⟩, fun h2 s2 x1 x2 => ?_⟩
    obtain ⟨y1, y2, y3⟩ := e31 h2 x2
    refine ⟨_, me_codec (d := d) s2 (Or.inl ⟨v0, v1⟩) (by omega) (by omega) y1 y2, fun w h3 hw hq3 => ?_⟩
    obtain ⟨rfl, z1, z2, z3, z4⟩ := hq3
    rw [if_pos v0] at z3 z4
    refine mt_kolD z1 op o69 ?_
    intro h4 k1 k2
    have e := me_nil k2
    subst e
    refine tk h2 h4 _ (q + 1) (Or.inr (Or.inl s1)) ?_ s2 x2 (by omega) (if_pos (Or.inr s1)) z1 z2 z3 z4
    unfold tkw
    rw [if_neg (by omega), if_pos s1]
  · -- nothing
    intro a1 h2 s2 x1
    have e := me_nil x1
    subst e
    refine ly h2 [] (by omega) s2 ab_Fr.refl ab_Fr.refl rfl rfl rfl ?_ ?_ ?_ (by omega)
    · rw [ol4, if_neg (by omega)]; exact c3
    · rw [ol4]; dsimp only; rw [if_neg (by omega)]; exact c4
    · rw [ol4]; dsimp only; rw [if_neg (by omega), if_neg (by omega)]; exact c5
  · -- a blank
    intro a1 h2 s2 x1 x2
    have l2 : mi_f h2 13832 = mi_f h1 13832 := me_f (c := 13832) x2 g1 rfl rfl
    refine ly h2 _ (by omega) s2 x2 (x2.wide (fun c hc => ab_swr_ok (by decide) hc)) rfl rfl rfl ?_ ?_ ?_ (by omega)
    · rw [ol4, if_pos (by omega)]; exact x1
    · rw [ol4]; dsimp only; rw [if_neg (by omega), me_f (c := 13833) x2 g1 rfl rfl]; exact c4
    · rw [ol4]; dsimp only; rw [if_neg (by omega), if_neg (by omega), l2]; exact c5
  · -- a line
    intro a1 h2 s2 x1 x2
    have l2 : mi_f h2 13832 = mi_f h1 13832 := me_f (c := 13832) x2 g1 rfl rfl
    refine ly h2 _ (by omega) s2 x2 (x2.wide (fun c hc => ab_swr_ok (by decide) hc)) rfl rfl rfl ?_ ?_ ?_ (by omega)
    · rw [ol4, if_neg (by omega), me_f (c := 13834) x2 g1 rfl rfl]; exact c3
    · rw [ol4]; dsimp only; rw [if_pos (by omega)]; exact x1
    · rw [ol4]; dsimp only; rw [if_neg (by omega), if_neg (by omega), l2]; exact c5
  · -- deeper
    intro a0 a1
    refine ⟨⟨by omega, by omega⟩, fun h2 s2 x1 x2 => ?_⟩
    refine ly h2 _ (by omega) s2 x2 (x2.wide (fun c hc => ab_swr_ok (by decide) hc)) rfl rfl rfl ?_ ?_ ?_ (by omega)
    · rw [ol4, if_neg (by omega), me_f (c := 13834) x2 g1 rfl rfl]; exact c3
    · rw [ol4]; dsimp only; rw [if_neg (by omega), me_f (c := 13833) x2 g1 rfl rfl]; exact c4
    · rw [ol4]; dsimp only; rw [if_pos (by omega), x1, c5]
  · -- back, at the edge
    intro a0 a1 a2
    refine ⟨⟨by omega, by omega⟩, fun h2 s2 x1 x2 => ?_⟩
    refine ly h2 _ (by omega) s2 x2 (x2.wide (fun c hc => ab_swr_ok (by decide) hc)) rfl rfl rfl ?_ ?_ ?_ (by omega)
    · rw [ol4, if_neg (by omega), me_f (c := 13834) x2 g1 rfl rfl]; exact c3
    · rw [ol4]; dsimp only; rw [if_neg (by omega), me_f (c := 13833) x2 g1 rfl rfl]; exact c4
    · rw [ol4]; dsimp only; rw [if_neg (by omega), if_neg (by omega), x1]; omega
  · -- back
    intro a0 a1 a2
    refine ⟨⟨by omega, by omega⟩, fun h2 s2 x1 x2 => ?_⟩
    refine ly h2 _ (by omega) s2 x2 (x2.wide (fun c hc => ab_swr_ok (by decide) hc)) rfl rfl rfl ?_ ?_ ?_ (by omega)
    · rw [ol4, if_neg (by omega), me_f (c := 13834) x2 g1 rfl rfl]; exact c3
    · rw [ol4]; dsimp only; rw [if_neg (by omega), me_f (c := 13833) x2 g1 rfl rfl]; exact c4
    · rw [ol4]; dsimp only; rw [if_neg (by omega), if_pos (by omega), x1, c5]
  · -- a literal
    intro a1 a2 a3
    have s1 : g 119 p.toNat = 8 := by omega
    obtain ⟨m1, m2, m3, m4⟩ := n8 s1
    rw [m1, m3]
    refine ⟨⟨by omega, by omega⟩, fun h2 s2 x1 => ?_⟩
    have e := me_nil x1
    subst e
    refine ⟨_, me_codec (d := d) s2 m4 (by omega) (by omega) hR hW, fun w h3 hw hq3 => ?_⟩
    obtain ⟨rfl, z1, z2, z3, z4⟩ := hq3
    refine mt_kolE z1 op (by rw [← m1]; exact o69) ?_
    intro h4 k1 k2
    have e := me_nil k2
    subst e
    refine tk h2 h4 _ q (Or.inr (Or.inr s1)) ?_ s2 ab_Fr.refl hq (if_neg (by omega)) z1 z2 z3 z4
    unfold tkw
    rw [if_pos s1]
  · -- nothing else
    intro a1 h2 s2 x1
    have e := me_nil x1
    subst e
    refine ly h2 [] (by omega) s2 ab_Fr.refl ab_Fr.refl rfl rfl rfl ?_ ?_ ?_ (by omega)
    · rw [ol4, if_neg (by omega)]; exact c3
    · rw [ol4]; dsimp only; rw [if_neg (by omega)]; exact c4
    · rw [ol4]; dsimp only; rw [if_neg (by omega), if_neg (by omega)]; exact c5
end CLF
