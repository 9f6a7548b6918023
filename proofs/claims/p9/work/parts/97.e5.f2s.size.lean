/-! how many nodes stand in each: by their levels -/
def sz : List (Int × Int × Int) → List Int
  | [] => []
  | x :: A => ((A.takeWhile (fun y => decide (x.2.2 < y.2.2))).length : Int) :: sz A
/-- nodes side by side at a level, with all that is in them -/
def fo (D : Int) (A : List (Int × Int × Int)) : Prop := (∀ x ∈ A, D ≤ x.2.2) ∧ ∀ x B, A = x :: B → x.2.2 = D
theorem sz_len : ∀ A : List (Int × Int × Int), (sz A).length = A.length := by
  intro A
  induction A with
  | nil => rfl
  | cons x A ih =>
    show (sz A).length + 1 = A.length + 1
    rw [ih]
theorem fo_nil {D : Int} : fo D [] := ⟨fun x hx => absurd hx List.not_mem_nil, fun x B h => absurd h (by simp)⟩
theorem fo_app {D : Int} {A B : List (Int × Int × Int)} (h1 : fo D A) (h2 : fo D B) : fo D (A ++ B) := by
  refine ⟨fun x hx => ?_, fun x C h => ?_⟩
  · rcases List.mem_append.mp hx with hx | hx
    · exact h1.1 x hx
    · exact h2.1 x hx
  · cases A with
    | nil => exact h2.2 x C h
    | cons y A =>
      rw [List.cons_append] at h
      injection h with h _
      rw [← h]
      exact h1.2 y A rfl
theorem fo_cons {D k v : Int} {A : List (Int × Int × Int)} (h : fo (D + 1) A) : fo D ((k, v, D) :: A) := by
  refine ⟨fun x hx => ?_, fun x B e => ?_⟩
  · rcases List.mem_cons.mp hx with rfl | hx
    · exact Int.le_refl _
    · have := h.1 x hx
      omega
  · injection e with e _
    rw [← e]
theorem fo_one {D k v : Int} : fo D [(k, v, D)] := fo_cons fo_nil
theorem tw_app {D : Int} {B : List (Int × Int × Int)} (hB : fo D B) {l : Int} (hl : D ≤ l) : ∀ A : List (Int × Int × Int), ((A ++ B).takeWhile (fun y => decide (l < y.2.2))) = A.takeWhile (fun y => decide (l < y.2.2)) := by
  intro A
  induction A with
  | nil =>
    cases B with
    | nil => rfl
    | cons x B =>
      have := hB.2 x B rfl
      rw [List.nil_append, List.takeWhile_cons, if_neg (by rw [decide_eq_true_eq]; omega)]
      rfl
  | cons x A ih =>
    rw [List.cons_append, List.takeWhile_cons, List.takeWhile_cons, ih]
theorem sz_app {D : Int} {B : List (Int × Int × Int)} (hB : fo D B) : ∀ A : List (Int × Int × Int), (∀ x ∈ A, D ≤ x.2.2) → sz (A ++ B) = sz A ++ sz B := by
  intro A
  induction A with
  | nil => intro _; rfl
  | cons x A ih =>
    intro hA
    show (((A ++ B).takeWhile (fun y => decide (x.2.2 < y.2.2))).length : Int) :: sz (A ++ B) = ((A.takeWhile (fun y => decide (x.2.2 < y.2.2))).length : Int) :: (sz A ++ sz B)
    rw [tw_app hB (hA x List.mem_cons_self), ih (fun y hy => hA y (List.mem_cons_of_mem _ hy))]
theorem tw_all {l : Int} : ∀ A : List (Int × Int × Int), (∀ y ∈ A, l < y.2.2) → A.takeWhile (fun y => decide (l < y.2.2)) = A := by
  intro A
  induction A with
  | nil => intro _; rfl
  | cons x A ih =>
    intro h
    rw [List.takeWhile_cons, if_pos (by rw [decide_eq_true_eq]; exact h x List.mem_cons_self), ih (fun y hy => h y (List.mem_cons_of_mem _ hy))]
theorem sz_cons {D k v : Int} {A : List (Int × Int × Int)} (h : fo (D + 1) A) : sz ((k, v, D) :: A) = (A.length : Int) :: sz A := by
  show ((A.takeWhile (fun y => decide (D < y.2.2))).length : Int) :: sz A = _
  rw [tw_all A (fun y hy => by have := h.1 y hy; omega)]
/-- .. in the row of the sizes of the class's fresh tree, from the m-th on -/
def gz (h : sm_H) (m : Nat) (A : List (Int × Int × Int)) : Prop := ∀ k : Nat, k < A.length → (sz A)[k]? = some (mi_a h 105 (m + k))
theorem gz_nil {h : sm_H} {m : Nat} : gz h m [] := fun k hk => absurd hk (Nat.not_lt_zero _)
theorem gz_eq {h h' : sm_H} {m : Nat} {A : List (Int × Int × Int)} (hz : gz h m A) (he : ∀ k, m ≤ k → k < m + A.length → mi_a h' 105 k = mi_a h 105 k) : gz h' m A := fun k hk => by
  rw [he (m + k) (by omega) (by omega)]
  exact hz k hk
theorem gz_app {h : sm_H} {m : Nat} {D : Int} {A B : List (Int × Int × Int)} (fA : fo D A) (fB : fo D B) (h1 : gz h m A) (h2 : gz h (m + A.length) B) : gz h m (A ++ B) := fun k hk => by
  rw [sz_app fB A fA.1]
  by_cases c : k < A.length
  · rw [List.getElem?_append_left (by rw [sz_len]; exact c)]
    exact h1 k c
  · rw [List.length_append] at hk
    rw [List.getElem?_append_right (by rw [sz_len]; omega), sz_len]
    have := h2 (k - A.length) (by omega)
    rw [this]
    exact congrArg (fun i => some (mi_a h 105 i)) (by omega)
theorem gz_cons {h : sm_H} {m : Nat} {D k v : Int} {A : List (Int × Int × Int)} (fA : fo (D + 1) A) (h1 : gz h (m + 1) A) (e : mi_a h 105 m = (A.length : Int)) : gz h m ((k, v, D) :: A) := fun j hj => by
  rw [sz_cons fA]
  cases j with
  | zero =>
    show some (A.length : Int) = some (mi_a h 105 (m + 0))
    rw [Nat.add_zero, e]
  | succ j =>
    show (sz A)[j]? = some (mi_a h 105 (m + (j + 1)))
    rw [List.length_cons] at hj
    rw [h1 j (by omega)]
    exact congrArg (fun i => some (mi_a h 105 i)) (by omega)
/-! the rows of a tree are turned, with the sizes -/
section CXS
variable {d : Nat} {h0 : sm_H}
theorem tr7s {zf zt : Int} {K V S : Nat → Int} (f0 : 0 ≤ zf) (ft : zf ≤ zt) (t1 : zt ≤ 100) : ∀ (N : Nat) (zl zr : Int) (h : sm_H), zr - zl < N → zf ≤ zl → zl + zr = zf + zt - 1 → -1 ≤ zr → ab_Sh sx_sk h → ab_Fr tr_W h0 h → (∀ i, mi_a h 103 i = rv_m K zf.toNat zt.toNat zl zr i) → (∀ i, mi_a h 104 i = rv_m V zf.toNat zt.toNat zl zr i) → (∀ i, mi_a h 105 i = rv_m S zf.toNat zt.toNat zl zr i) → me_E (d + 2) 154 7 [some (.inr (.inr 102)), some (.inl zf), some (.inl zt), some (.inl zl), some (.inl zr)] [] h (fun w h' => w = none ∧ ab_Sh sx_sk h' ∧ ab_Fr tr_W h0 h' ∧ (∀ i, mi_a h' 103 i = rv_o K zf.toNat zt.toNat i) ∧ (∀ i, mi_a h' 104 i = rv_o V zf.toNat zt.toNat i) ∧ ∀ i, mi_a h' 105 i = rv_o S zf.toNat zt.toNat i) := by
  have of : mi_in zf := ⟨by omega, by omega⟩
  have ot : mi_in zt := ⟨by omega, by omega⟩
  have fin : ∀ (K : Nat → Int) (zl zr : Int), zf ≤ zl → zl + zr = zf + zt - 1 → zr ≤ zl → ∀ i, rv_m K zf.toNat zt.toNat zl zr i = rv_o K zf.toNat zt.toNat i := by
    intro K zl zr h1 h2 h3 i
    unfold rv_m rv_o
    by_cases c : zf.toNat ≤ i ∧ i < zt.toNat
    · rw [if_pos c]
      by_cases c2 : (i : Int) < zl ∨ zr < i
      · rw [if_pos ⟨c, c2⟩]
      · rw [if_neg (fun q => c2 q.2)]
        exact congrArg K (by omega)
    · rw [if_neg c, if_neg (fun q => c q.1)]
  intro N
  induction N with
  | zero =>
    intro zl zr h hN h1 h2 hr hS hF e1 e2 e3
    have ol : mi_in zl := ⟨by omega, by omega⟩
    have or_ : mi_in zr := ⟨by omega, by omega⟩
    refine mt_kgxB hS of ot ol or_ ?_ (by intros; exfalso; omega) (by intros; exfalso; omega) (by intros; exfalso; omega) (by intros; exfalso; omega) (by intros; exfalso; omega) (by intros; exfalso; omega) (by intros; exfalso; omega) (by intros; exfalso; omega) (by intros; exfalso; omega)
    intro c h1' g1 g2
    have e := me_nil g2
    subst e
    exact ⟨rfl, g1, hF, fun i => (e1 i).trans (fin K zl zr h1 h2 c i), fun i => (e2 i).trans (fin V zl zr h1 h2 c i), fun i => (e3 i).trans (fin S zl zr h1 h2 c i)⟩
  | succ N ih =>
    intro zl zr h hN h1 h2 hr hS hF e1 e2 e3
    have ol : mi_in zl := ⟨by omega, by omega⟩
    have or_ : mi_in zr := ⟨by omega, by omega⟩
    refine mt_kgxB hS of ot ol or_ ?_ (by intros; exfalso; omega) (by intros; exfalso; omega) (by intros; exfalso; omega) (by intros; exfalso; omega) (by intros; exfalso; omega) (by intros; exfalso; omega) (by intros; exfalso; omega) (by intros; exfalso; omega) ?_
    · intro c h1' g1 g2
      have e := me_nil g2
      subst e
      exact ⟨rfl, g1, hF, fun i => (e1 i).trans (fin K zl zr h1 h2 c i), fun i => (e2 i).trans (fin V zl zr h1 h2 c i), fun i => (e3 i).trans (fin S zl zr h1 h2 c i)⟩
    · intro c1 c2 c3 c4 c5
      refine ⟨⟨⟨by omega, by omega⟩, by omega, by omega⟩, fun ha a1 a2 a3 => ?_⟩
      refine mt_kgxC a1 of ot ol or_ (by intros; exfalso; omega) (by intros; exfalso; omega) (by intros; exfalso; omega) (by intros; exfalso; omega) (by intros; exfalso; omega) (by intros; exfalso; omega) (by intros; exfalso; omega) (by intros; exfalso; omega) ?_
      intro d1 d2 d3 d4
      refine ⟨⟨⟨by omega, by omega⟩, by omega, by omega⟩, fun hb b1 b2 b3 => ?_⟩
      refine mt_kgxD b1 of ot ol or_ (by intros; exfalso; omega) (by intros; exfalso; omega) (by intros; exfalso; omega) (by intros; exfalso; omega) (by intros; exfalso; omega) (by intros; exfalso; omega) (by intros; exfalso; omega) (by intros; exfalso; omega) ?_
      intro p1 p2 p3 p4
      refine ⟨⟨⟨by omega, by omega⟩, ⟨by omega, by omega⟩, ⟨by omega, by omega⟩, by omega, by omega⟩, fun hc k1 k2 k3 => ?_⟩
      have E1 : ∀ i, mi_a hc 103 i = if i = zr.toNat then mi_a h 103 zl.toNat else if i = zl.toNat then mi_a h 103 zr.toNat else mi_a h 103 i := fun i => by
        rw [me_a (k := 103) k3 b1 rfl rfl, me_a (k := 103) b3 a1 rfl rfl, a2]
      have E2 : ∀ i, mi_a hc 104 i = if i = zr.toNat then mi_a h 104 zl.toNat else if i = zl.toNat then mi_a h 104 zr.toNat else mi_a h 104 i := fun i => by
        rw [me_a (k := 104) k3 b1 rfl rfl, b2, me_a (k := 104) a3 hS rfl rfl, me_a (k := 104) a3 hS rfl rfl, me_a (k := 104) a3 hS rfl rfl]
      have s5 : ∀ i, mi_a hb 105 i = mi_a h 105 i := fun i => (me_a (k := 105) b3 a1 rfl rfl).trans (me_a (k := 105) a3 hS rfl rfl)
      have E3 : ∀ i, mi_a hc 105 i = if i = zr.toNat then mi_a h 105 zl.toNat else if i = zl.toNat then mi_a h 105 zr.toNat else mi_a h 105 i := fun i => by
        rw [k2, s5, s5, s5]
      have hF' : ab_Fr tr_W h0 hc := ((hF.trans (a3.wide (fun c hc => ab_swr_ok (by decide) hc))).trans (b3.wide (fun c hc => ab_swr_ok (by decide) hc))).trans (k3.wide (fun c hc => ab_swr_ok (by decide) hc))
      exact ih (zl + 1) (zr + (-1)) hc (by omega) (by omega) (by omega) (by omega) k1 hF' (rv_step e1 (by omega) (by omega) c1 E1) (rv_step e2 (by omega) (by omega) c1 E2) (rv_step e3 (by omega) (by omega) c1 E3)
theorem me_sturn {h : sm_H} {zf zt : Int} (hS : ab_Sh sx_sk h) (f0 : 0 ≤ zf) (ft : zf ≤ zt) (t1 : zt ≤ 100) : me_E (d + 2) 154 0 [some (.inr (.inr 102)), some (.inl zf), some (.inl zt), none, none] [] h (fun w h' => w = none ∧ ab_Sh sx_sk h' ∧ ab_Fr tr_W h h' ∧ (∀ i, mi_a h' 103 i = rv_o (mi_a h 103) zf.toNat zt.toNat i) ∧ (∀ i, mi_a h' 104 i = rv_o (mi_a h 104) zf.toNat zt.toNat i) ∧ ∀ i, mi_a h' 105 i = rv_o (mi_a h 105) zf.toNat zt.toNat i) := by
  have of : mi_in zf := ⟨by omega, by omega⟩
  have ot : mi_in zt := ⟨by omega, by omega⟩
  refine mt_kgxA hS of ot ?_
  refine ⟨⟨by omega, by omega⟩, fun h1 g1 g2 => ?_⟩
  have e := me_nil g2
  subst e
  have st : ∀ (K : Nat → Int) i, K i = rv_m K zf.toNat zt.toNat zf (zt - 1) i := fun K i => by
    unfold rv_m
    rw [if_neg (by omega)]
  exact tr7s f0 ft t1 200 zf (zt - 1) h1 (by omega) (by omega) (by omega) (by omega) g1 ab_Fr.refl (st _) (st _) (st _)
/-- where the k-th one was -/
def ro_i (a m n : Nat) (i : Nat) : Nat := if i < a then i else if i < a + (n - m) then i + (m - a) else i - (n - m)
/-- exchange, of the rows -/
theorem me_sexch {h : sm_H} {a m : Nat} {T : List (Int × Int × Int)} (hS : ab_Sh sx_sk h) (hT : gq_T h T) (h1 : a ≤ m) (h2 : m ≤ T.length) (h3 : T.length ≤ 100) : me_E (d + 3) 153 0 [some (.inr (.inr 102)), some (.inl (a : Int)), some (.inl (m : Int))] [] h (fun w h' => w = none ∧ ab_Sh sx_sk h' ∧ ab_Fr tr_W h h' ∧ gq_T h' (gm_rot a m T) ∧ ∀ i, i < T.length → mi_a h' 105 i = mi_a h 105 (ro_i a m T.length i)) := by
  obtain ⟨t1, t2⟩ := hT
  have oa : mi_in (a : Int) := ⟨by omega, by omega⟩
  have om : mi_in (m : Int) := ⟨by omega, by omega⟩
  refine mt_kgeA hS oa om ?_
  intro hb b1 b2
  have e := me_nil b2
  subst e
  refine ⟨_, me_sturn (d := d) b1 (by omega) (by omega) (by omega), fun w hc hw hq => ?_⟩
  obtain ⟨rfl, c1, c2, c3, c4, c5⟩ := hq
  have n1 : mi_f hc 13056 = T.length := (me_f (c := 13056) c2 b1 rfl rfl).trans t1
  refine mt_kgeB c1 oa om ?_
  intro hd d1 d2
  have e := me_nil d2
  subst e
  rw [n1]
  refine ⟨_, me_sturn (d := d) d1 (by omega) (by omega) (by omega), fun w he hw hq => ?_⟩
  obtain ⟨rfl, e1, e2, e3, e4, e5⟩ := hq
  have n2 : mi_f he 13056 = T.length := (me_f (c := 13056) e2 d1 rfl rfl).trans n1
  refine mt_kgeC e1 oa om ?_
  intro hf f1 f2
  have e := me_nil f2
  subst e
  rw [n2]
  refine ⟨_, me_sturn (d := d) f1 (by omega) (by omega) (by omega), fun w hg hw hq => ?_⟩
  obtain ⟨rfl, k1, k2, k3, k4, k5⟩ := hq
  refine mt_kgeD k1 oa om ?_
  intro hh l1 l2
  have e := me_nil l2
  subst e
  rw [Int.toNat_natCast] at c3 c4 c5 e3 e4 e5 k3 k4 k5
  rw [Int.toNat_natCast] at c3 c4 c5 e3 e4 e5 k3 k4 k5
  have K3 := rv_three h1 h2 c3 e3 k3
  have V3 := rv_three h1 h2 c4 e4 k4
  have S3 := rv_three h1 h2 c5 e5 k5
  have n3 : mi_f hh 13056 = T.length := (me_f (c := 13056) k2 f1 rfl rfl).trans n2
  refine ⟨rfl, l1, (c2.trans e2).trans k2, ?_, fun i hi => S3 i hi⟩
  unfold gq_T
  rw [gm_rot_len]
  refine ⟨n3, fun k hk => ?_⟩
  rw [K3 k hk, V3 k hk, gm_rot_get h1 h2, if_pos hk]
  refine t2 _ ?_
  split
  · omega
  · split <;> omega
/-- the sizes, once two rows of nodes are exchanged -/
theorem gz_rot {h h' : sm_H} {a : Nat} {D : Int} {B C : List (Int × Int × Int)} (fB : fo D B) (fC : fo D C) (zB : gz h a B) (zC : gz h (a + B.length) C) (e : ∀ i, i < a + B.length + C.length → mi_a h' 105 i = mi_a h 105 (ro_i a (a + B.length) (a + B.length + C.length) i)) : gz h' a (C ++ B) := by
  refine gz_app fC fB (fun k hk => ?_) (fun k hk => ?_)
  · rw [zC k hk, e (a + k) (by omega)]
    refine congrArg (fun i => some (mi_a h 105 i)) ?_
    unfold ro_i
    rw [if_neg (by omega), if_pos (by omega)]
    omega
  · rw [zB k hk, e (a + C.length + k) (by omega)]
    refine congrArg (fun i => some (mi_a h 105 i)) ?_
    unfold ro_i
    rw [if_neg (by omega), if_neg (by omega)]
    omega
end CXS
/-- what is appended -/
def pq_A (h0 : sm_H) (s : gm_S) (D : Int) (h : sm_H) (s' : gm_S) : Prop := gm_P s' = gm_P s ∧ ∃ A, gm_T s' = gm_T s ++ A ∧ fo D A ∧ gz h (gm_T s).length A ∧ ∀ k, k < (gm_T s).length → mi_a h 105 k = mi_a h0 105 k
theorem pq_A_refl {h : sm_H} {s : gm_S} {D : Int} : pq_A h s D h s := ⟨rfl, [], (List.append_nil _).symm, fo_nil, gz_nil, fun _ _ => rfl⟩
theorem pq_A_trans {h0 h1 h2 : sm_H} {s s1 s2 : gm_S} {D : Int} (a : pq_A h0 s D h1 s1) (b : pq_A h1 s1 D h2 s2) : pq_A h0 s D h2 s2 := by
  obtain ⟨a1, A, a2, a3, a4, a5⟩ := a
  obtain ⟨b1, B, b2, b3, b4, b5⟩ := b
  have el : (gm_T s1).length = (gm_T s).length + A.length := by rw [a2, List.length_append]
  refine ⟨b1.trans a1, A ++ B, by rw [b2, a2, List.append_assoc], fo_app a3 b3, gz_app a3 b3 (gz_eq a4 (fun k k1 k2 => b5 k (by omega))) (by rw [← el]; exact b4), fun k hk => (b5 k (by omega)).trans (a5 k hk)⟩
theorem pq_A_h {h0 h h' : sm_H} {s s' t : gm_S} {D : Int} (a : pq_A h0 s D h s') (e1 : gm_P t = gm_P s') (e2 : gm_T t = gm_T s') (e3 : ∀ k, k < (gm_T s').length → mi_a h' 105 k = mi_a h 105 k) : pq_A h0 s D h' t := by
  obtain ⟨a1, A, a2, a3, a4, a5⟩ := a
  have el : (gm_T s').length = (gm_T s).length + A.length := by rw [a2, List.length_append]
  exact ⟨e1.trans a1, A, e2.trans a2, a3, gz_eq a4 (fun k k1 k2 => e3 k (by omega)), fun k hk => (e3 k (by omega)).trans (a5 k hk)⟩
/-- a node, with what stands in it, is closed -/
theorem pq_close {h0 h h' : sm_H} {s s' t : gm_S} {D k v : Int} {B : List (Int × Int × Int)} (eP : gm_P t = gm_P s) (eT : gm_T t = gm_T s') (e1 : gm_T s' = gm_T s ++ (k, v, D) :: B) (fB : fo (D + 1) B) (zB : gz h ((gm_T s).length + 1) B) (lo : ∀ i, i < (gm_T s).length → mi_a h 105 i = mi_a h0 105 i) (e5 : ∀ i, mi_a h' 105 i = if i = (gm_T s).length then (B.length : Int) else mi_a h 105 i) : pq_A h0 s D h' t := by
  refine ⟨eP, (k, v, D) :: B, by rw [eT, e1], fo_cons fB, gz_cons fB (gz_eq zB (fun i i1 i2 => ?_)) ?_, fun i hi => ?_⟩
  · rw [e5, if_neg (by omega)]
  · rw [e5, if_pos rfl]
  · rw [e5, if_neg (by omega)]
    exact lo i hi
/-- the state with which the parts begin: of a form that is no choice, of one that is -/
def pq_b (hb hm : sm_H) (s sb : gm_S) (zo : Int) (rest : List wk_E → List wk_E) : Prop := (zo = -1 ∧ (∀ r, rest r = r) ∧ sb = s ∧ hm = hb) ∨ (zo ≠ -1 ∧ zo = gm_len s ∧ (∀ r, rest r = (2, 0, 0) :: r) ∧ gm_D sb = gm_D s + 1 ∧ gm_P sb = gm_P s ∧ (∃ v, gm_T sb = gm_T s ++ [(4 + 10 * ((gm_T s).length : Int), v, gm_D s)]) ∧ ∀ i, i < (gm_T s).length → mi_a hm 105 i = mi_a hb 105 i)
section CXG
variable {d : Nat} {h : sm_H}
theorem me_gexchs {a m : Nat} {T : List (Int × Int × Int)} (hS : ab_Sh sx_sk h) (hT : gq_T h T) (h1 : a ≤ m) (h2 : m ≤ T.length) (h3 : T.length ≤ 100) : me_E (d + 4) 152 0 [some (.inr (.inr 107)), some (.inl (a : Int)), some (.inl (m : Int))] [] h (fun w h' => w = none ∧ ab_Sh sx_sk h' ∧ ab_Fr tr_W h h' ∧ gq_T h' (gm_rot a m T) ∧ ∀ i, i < T.length → mi_a h' 105 i = mi_a h 105 (ro_i a m T.length i)) := by
  have oa : mi_in (a : Int) := ⟨by omega, by omega⟩
  have om : mi_in (m : Int) := ⟨by omega, by omega⟩
  refine mt_kgpA hS oa om ?_
  intro ha a1 a2
  have e := me_nil a2
  subst e
  refine ⟨_, me_sexch (d := d) a1 hT h1 h2 h3, fun w h' hw hq => ?_⟩
  obtain ⟨rfl, q1, q2, q3⟩ := hq
  refine mt_kgpB q1 oa om ?_
  intro hb b1 b2
  have e := me_nil b2
  subst e
  exact ⟨rfl, b1, q2, q3⟩
end CXG
