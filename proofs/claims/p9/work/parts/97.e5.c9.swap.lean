/-! swap of the reference, exactly -/
theorem gm_rot_get {a b : Nat} {T : List (Int × Int × Int)} (hab : a ≤ b) (hb : b ≤ T.length) (k : Nat) : (gm_rot a b T)[k]? = if k < T.length then T[if k < a then k else if k < a + (T.length - b) then k + (b - a) else k - (T.length - b)]? else none := by
  unfold gm_rot
  rw [if_pos ⟨hab, hb⟩]
  by_cases ck : k < T.length
  · rw [if_pos ck]
    by_cases c1 : k < a
    · rw [if_pos c1, List.append_assoc, List.getElem?_append_left (by rw [List.length_take]; omega), List.getElem?_take_of_lt c1]
    · rw [if_neg c1]
      by_cases c2 : k < a + (T.length - b)
      · rw [if_pos c2, List.getElem?_append_left (by rw [List.length_append, List.length_take, List.length_drop]; omega), List.getElem?_append_right (by rw [List.length_take]; omega), List.getElem?_drop, List.length_take]
        exact congrArg (fun i => T[i]?) (by omega)
      · rw [if_neg c2, List.getElem?_append_right (by rw [List.length_append, List.length_take, List.length_drop]; omega), List.getElem?_drop, List.length_append, List.length_take, List.length_drop, List.getElem?_take_of_lt (by omega)]
        exact congrArg (fun i => T[i]?) (by omega)
  · rw [if_neg ck]
    exact List.getElem?_eq_none (by rw [List.length_append, List.length_append, List.length_drop, List.length_drop, List.length_take, List.length_take]; omega)
section GXA
variable {d : Nat} {zb za zn : Int}
/-- the order, behind a swap -/
def sw_o (O : Nat → Int) (a n m : Int) (i : Nat) : Int := if (i : Int) < a then O i else if (i : Int) < m - n then O (i + n.toNat) else if (i : Int) < m then O (i + a.toNat - (m - n).toNat) else O i
theorem sw99x (O : Nat → Int) (m : Int) (ob : mi_in zb) (ha0 : 0 ≤ za) (hn0 : 0 ≤ zn) (han : za + zn ≤ m) (hm : m ≤ 100) : ∀ (N : Nat) (zk : Int) (h : sm_H), zn - zk < N → 0 ≤ zk → zk ≤ zn → mi_f h 14016 = m → ab_Sh sx_sk h → (∀ i : Nat, (i : Int) < zn → mi_a h 145 i = O (i + za.toNat)) → (∀ i : Nat, mi_a h 160 i = if (i : Int) < za then O i else if (i : Int) < m - zn then O (i + zn.toNat) else if (i : Int) < m - zn + zk then O (i + za.toNat - (m - zn).toNat) else O i) → me_E d 226 99 [some (.inr (.inr 109)), some (.inl zb), some (.inl za), some (.inl zn), some (.inl zk)] [] h (fun w h' => w = none ∧ ab_Sh sx_sk h' ∧ ab_Fr wr_sw h h' ∧ mi_f h' 14030 = mi_f h 14030 ∧ ∀ i : Nat, mi_a h' 160 i = sw_o O za zn m i) := by
  have on : mi_in zn := ⟨by omega, by omega⟩
  have oa : mi_in za := ⟨by omega, by omega⟩
  intro N
  induction N with
  | zero => intro zk h h1 h2 h3; omega
  | succ N ih =>
    intro zk h h1 h2 h3 h4 hS hr ho
    have ok : mi_in zk := ⟨by omega, by omega⟩
    refine mt_swD hS ob oa on ok ?_ ?_
    · intro c h3' r1 r2
      have e3 := me_nil r2
      subst e3
      refine ⟨rfl, r1, ab_Fr.refl, rfl, fun i => ?_⟩
      rw [ho]
      unfold sw_o
      have e : m - zn + zk = m := by omega
      rw [e]
    · intro b c
      have br := me_ab (k := 145) (i := zk.toNat) hS rfl (by decide) (by omega)
      refine ⟨by omega, fun h3' r1 r2 r3 => ?_⟩
      have e16 : mi_f h3' 14016 = mi_f h 14016 := me_f (c := 14016) r3 hS rfl rfl
      refine (ih _ h3' (by omega) (by omega) (by omega) (by omega) r1 (fun i hi => (me_a (k := 145) r3 hS rfl rfl).trans (hr i hi)) (fun i => ?_)).imp (fun w h' hq => ⟨hq.1, hq.2.1, (r3.wide (fun c hc => ab_swr_ok (by decide) hc)).trans hq.2.2.1, hq.2.2.2.1.trans (me_f (c := 14030) r3 hS rfl rfl), hq.2.2.2.2⟩)
      rw [r2]
      by_cases ei : i = Int.toNat (mi_f h 14016 - zn + zk)
      · rw [if_pos ei, hr zk.toNat (by omega), if_neg (by omega), if_neg (by omega), if_pos (by omega)]
        exact congrArg O (by omega)
      · rw [if_neg ei, ho]
        by_cases c1 : (i : Int) < za
        · rw [if_pos c1, if_pos c1]
        · rw [if_neg c1, if_neg c1]
          by_cases c2 : (i : Int) < m - zn
          · rw [if_pos c2, if_pos c2]
          · rw [if_neg c2, if_neg c2]
            by_cases c3 : (i : Int) < m - zn + zk
            · rw [if_pos c3, if_pos (by omega)]
            · rw [if_neg c3, if_neg (by omega)]
theorem sw65x (O : Nat → Int) (m : Int) (ha0 : 0 ≤ za) (hn0 : 0 ≤ zn) (hab : zb = za + zn) (hbm : zb ≤ m) (hm : m ≤ 100) : ∀ (N : Nat) (zk : Int) (h : sm_H), 100 - zk < N → zb ≤ zk → zk ≤ m → mi_f h 14016 = m → ab_Sh sx_sk h → (∀ i : Nat, (i : Int) < zn → mi_a h 145 i = O (i + za.toNat)) → (∀ i : Nat, mi_a h 160 i = if (i : Int) < za then O i else if (i : Int) < zk - zn then O (i + zn.toNat) else O i) → me_E d 226 65 [some (.inr (.inr 109)), some (.inl zb), some (.inl za), some (.inl zn), some (.inl zk)] [] h (fun w h' => w = none ∧ ab_Sh sx_sk h' ∧ ab_Fr wr_sw h h' ∧ mi_f h' 14030 = mi_f h 14030 ∧ ∀ i : Nat, mi_a h' 160 i = sw_o O za zn m i) := by
  have on : mi_in zn := ⟨by omega, by omega⟩
  have oa : mi_in za := ⟨by omega, by omega⟩
  have ob : mi_in zb := ⟨by omega, by omega⟩
  intro N
  induction N with
  | zero => intro zk h h1 h2 h3; omega
  | succ N ih =>
    intro zk h h1 h2 h3 h4 hS hr ho
    have ok : mi_in zk := ⟨by omega, by omega⟩
    have b16 := me_fb (c := 14016) hS rfl
    refine mt_swC hS ob oa on ok ?_ ?_
    · intro b c h3' r1 r2
      have e3 := me_nil r2
      subst e3
      refine sw99x O m ob ha0 hn0 (by omega) hm 200 0 h3' (by omega) (by decide) hn0 h4 r1 hr (fun i => ?_)
      have e : zk = m := by omega
      rw [ho, e]
      by_cases c1 : (i : Int) < za
      · rw [if_pos c1, if_pos c1]
      · rw [if_neg c1, if_neg c1]
        by_cases c2 : (i : Int) < m - zn
        · rw [if_pos c2, if_pos c2]
        · rw [if_neg c2, if_neg c2, if_neg (by omega)]
    · intro b c
      have br := me_ab (k := 160) (i := zk.toNat) hS rfl (by decide) (by omega)
      refine ⟨by omega, fun h3' r1 r2 r3 => ?_⟩
      have e16 : mi_f h3' 14016 = mi_f h 14016 := me_f (c := 14016) r3 hS rfl rfl
      refine (ih _ h3' (by omega) (by omega) (by omega) (by omega) r1 (fun i hi => (me_a (k := 145) r3 hS rfl rfl).trans (hr i hi)) (fun i => ?_)).imp (fun w h' hq => ⟨hq.1, hq.2.1, (r3.wide (fun c hc => ab_swr_ok (by decide) hc)).trans hq.2.2.1, hq.2.2.2.1.trans (me_f (c := 14030) r3 hS rfl rfl), hq.2.2.2.2⟩)
      rw [r2]
      by_cases ei : i = Int.toNat (zk - zn)
      · rw [if_pos ei, ho, if_neg (by omega), if_neg (by omega), if_neg (by omega), if_pos (by omega)]
        exact congrArg O (by omega)
      · rw [if_neg ei, ho]
        by_cases c1 : (i : Int) < za
        · rw [if_pos c1, if_pos c1]
        · rw [if_neg c1, if_neg c1]
          by_cases c2 : (i : Int) < zk - zn
          · rw [if_pos c2, if_pos (by omega)]
          · rw [if_neg c2, if_neg (by omega)]
theorem sw34x (m : Int) (ha0 : 0 ≤ za) (hn0 : 0 ≤ zn) (hab : zb = za + zn) (hbm : zb ≤ m) (hm : m ≤ 100) : ∀ (N : Nat) (zk : Int) (h : sm_H), zn - zk < N → 0 ≤ zk → zk ≤ zn → mi_f h 14016 = m → ab_Sh sx_sk h → (∀ i : Nat, (i : Int) < zk → mi_a h 145 i = mi_a h 160 (i + za.toNat)) → me_E d 226 34 [some (.inr (.inr 109)), some (.inl zb), some (.inl za), some (.inl zn), some (.inl zk)] [] h (fun w h' => w = none ∧ ab_Sh sx_sk h' ∧ ab_Fr wr_sw h h' ∧ mi_f h' 14030 = mi_f h 14030 ∧ ∀ i : Nat, mi_a h' 160 i = sw_o (mi_a h 160) za zn m i) := by
  intro N
  induction N with
  | zero => intro zk h h1 h2 h3; omega
  | succ N ih =>
    intro zk h h1 h2 h3 h4 hS hr
    have ok : mi_in zk := ⟨by omega, by omega⟩
    have on : mi_in zn := ⟨by omega, by omega⟩
    have ob : mi_in zb := ⟨by omega, by omega⟩
    have oa : mi_in za := ⟨by omega, by omega⟩
    refine mt_swB hS ob oa on ok ?_ ?_
    · intro c h3' r1 r2
      have e3 := me_nil r2
      subst e3
      have e : zk = zn := by omega
      refine sw65x (mi_a h3' 160) m ha0 hn0 hab hbm hm 200 zb h3' (by omega) (by omega) (by omega) h4 r1 (fun i hi => hr i (by omega)) (fun i => ?_)
      by_cases c1 : (i : Int) < za
      · rw [if_pos c1]
      · rw [if_neg c1, if_neg (by omega)]
    · intro c
      have br := me_ab (k := 160) (i := (za + zk).toNat) hS rfl (by decide) (by omega)
      refine ⟨by omega, fun h3' r1 r2 r3 => ?_⟩
      have e16 : mi_f h3' 14016 = mi_f h 14016 := me_f (c := 14016) r3 hS rfl rfl
      have e160 : mi_a h3' 160 = mi_a h 160 := funext fun i => me_a (k := 160) r3 hS rfl rfl
      have key := ih (zk + 1) h3' (by omega) (by omega) (by omega) (by omega) r1 (fun i hi => by
        rw [r2, e160]
        by_cases ei : i = Int.toNat zk
        · rw [if_pos ei]
          exact congrArg (mi_a h 160) (by omega)
        · rw [if_neg ei]
          exact hr i (by omega))
      rw [e160] at key
      exact key.imp (fun w h' hq => ⟨hq.1, hq.2.1, (r3.wide (fun c hc => ab_swr_ok (by decide) hc)).trans hq.2.2.1, hq.2.2.2.1.trans (me_f (c := 14030) r3 hS rfl rfl), hq.2.2.2.2⟩)
theorem gx_T_sw {h h' : sm_H} {T : List (Int × Int × Int)} {a b : Nat} (hT : gx_T h T) (hab : a ≤ b) (hb : b ≤ T.length) (e16 : mi_f h' 14016 = mi_f h 14016) (e158 : ∀ i, mi_a h' 158 i = mi_a h 158 i) (e159 : ∀ i, mi_a h' 159 i = mi_a h 159 i) (e163 : ∀ i, mx_b h' 163 i = mx_b h 163 i) (eo : ∀ i : Nat, mi_a h' 160 i = sw_o (mi_a h 160) (a : Int) ((b : Int) - a) (T.length : Int) i) : gx_T h' (gm_rot a b T) := by
  obtain ⟨t1, t2, t3⟩ := hT
  have ep : ∀ k : Nat, k < T.length → mi_a h' 160 k = mi_a h 160 (if k < a then k else if k < a + (T.length - b) then k + (b - a) else k - (T.length - b)) := by
    intro k hk
    rw [eo]
    unfold sw_o
    by_cases c1 : k < a
    · rw [if_pos c1, if_pos (by omega)]
    · rw [if_neg c1, if_neg (by omega)]
      by_cases c2 : k < a + (T.length - b)
      · rw [if_pos c2, if_pos (by omega)]
        exact congrArg (mi_a h 160) (by omega)
      · rw [if_neg c2, if_neg (by omega), if_pos (by omega)]
        exact congrArg (mi_a h 160) (by omega)
  have hp : ∀ k : Nat, k < T.length → (if k < a then k else if k < a + (T.length - b) then k + (b - a) else k - (T.length - b)) < T.length := by
    intro k hk
    split
    · omega
    · split <;> omega
  unfold gx_T
  rw [gm_rot_len, e16]
  refine ⟨t1, fun k hk => ?_, fun k j hk hj e => ?_⟩
  · rw [ep k hk, e158, e159, e163, gm_rot_get hab hb, if_pos hk]
    exact t2 _ (hp k hk)
  · rw [ep k hk, ep j hj] at e
    have := t3 _ _ (hp k hk) (hp j hj) e
    split at this
    · split at this
      · exact this
      · split at this <;> omega
    · split at this
      · split at this
        · omega
        · split at this <;> omega
      · split at this
        · omega
        · split at this <;> omega
theorem me_swapx {h : sm_H} {s : gm_S} {p : Nat × Nat} {q : List (Nat × Nat)} (hS : ab_Sh sx_sk h) (hR : gx_R h s) (hP : gm_P s = p :: q) (hq : q.length < 64) (p0 : p.2 ≠ 0) (p1 : p.1 ≤ p.2) (p2 : p.2 ≤ (gm_T s).length) : me_E d 226 0 [some (.inr (.inr 109)), none, none, none, none] [] h (fun w h' => w = none ∧ ab_Sh sx_sk h' ∧ ab_Fr wr_sw h h' ∧ gx_R h' (gm_tu s)) := by
  have b16 := me_fb (c := 14016) hS rfl
  obtain ⟨r1, r2, r3, r4, r5, r6⟩ := hR
  have r16 := r1.1
  rw [hP] at r5 r6
  rw [List.length_cons] at r5
  obtain ⟨a1, a2, a3⟩ := r6
  have a2 := a2.resolve_left p0
  have ei : (mi_f h 14030 - 1).toNat = q.length := by omega
  refine mt_swA hS ?_
  intro b
  rw [ei, a1, a2]
  refine ⟨by omega, fun h1 g1 g2 g3 => ?_⟩
  have e16 : mi_f h1 14016 = mi_f h 14016 := me_f (c := 14016) g3 hS rfl rfl
  refine (sw34x (mi_f h 14016) (by omega) (by omega) (by omega) (by omega) b16.2 200 0 h1 (by omega) (by decide) (by omega) e16 g1 (fun i hi => by omega)).imp (fun w h' hq' => ?_)
  obtain ⟨q1, q2, q3, q4, q5⟩ := hq'
  have e160 : mi_a h1 160 = mi_a h 160 := funext fun i => me_a (k := 160) g3 hS rfl rfl
  rw [e160] at q5
  have F : ab_Fr wr_sw h h' := (g3.wide (fun c hc => ab_swr_ok (by decide) hc)).trans q3
  refine ⟨q1, q2, F, ?_⟩
  have etu : gm_tu s = (gm_X s, gm_F s, gm_rot p.1 p.2 (gm_T s), gm_D s, q) := by
    unfold gm_tu
    rw [hP]
  rw [etu]
  unfold gx_R
  rw [gm_T_mk, gm_X_mk, gm_F_mk, gm_D_mk, gm_P_mk]
  refine ⟨gx_T_sw r1 p1 p2 (me_f (c := 14016) F hS rfl rfl) (fun i => me_a (k := 158) F hS rfl rfl) (fun i => me_a (k := 159) F hS rfl rfl) (fun i => me_b (k := 163) F hS rfl rfl) (fun i => ?_), (me_l (c := 14047) F hS rfl rfl).trans r2, (me_f (c := 14035) F hS rfl rfl).trans r3, (me_f (c := 14031) F hS rfl rfl).trans r4, by rw [q4, g2, r5]; omega, gx_P_fr F hS rfl _ a3⟩
  rw [q5, r16]
end GXA
