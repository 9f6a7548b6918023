/-! letters, keywordOf -/
theorem lg_or {a b : Int64} {n : Nat} (ha : a.toBitVec.toNat < 2 ^ n) (hb : b.toBitVec.toNat < 2 ^ n) : (a ||| b).toBitVec.toNat < 2 ^ n := by
  rw [Int64.toBitVec_or, BitVec.toNat_or]
  exact Nat.or_lt_two_pow ha hb
theorem lg_toInt {a : Int64} {n : Nat} (hn : n ≤ 62) (ha : a.toBitVec.toNat < 2 ^ n) : 0 ≤ a.toInt ∧ a.toInt < 2 ^ n := by
  have h1 : (2 : Nat) ^ n ≤ 2 ^ 62 := Nat.pow_le_pow_right (by decide) hn
  have e : a.toInt = (a.toBitVec.toNat : Int) := by
    show a.toBitVec.toInt = _
    exact BitVec.toInt_eq_toNat_of_lt (by omega)
  rw [e]
  refine ⟨by omega, ?_⟩
  exact_mod_cast ha
theorem lg_shl {a : Int64} {n k : Nat} {s : Int64} (hs : s.toBitVec.smod 64 = BitVec.ofNat 64 k) (hk : n + k ≤ 63) (ha : a.toBitVec.toNat < 2 ^ n) : (a <<< s).toBitVec.toNat < 2 ^ (n + k) := by
  rw [Int64.toBitVec_shiftLeft, hs]
  have hk64 : k < 2 ^ 64 := by omega
  have e : (a.toBitVec <<< BitVec.ofNat 64 k) = a.toBitVec <<< k := by
    rw [BitVec.shiftLeft_eq', BitVec.toNat_ofNat, Nat.mod_eq_of_lt hk64]
  rw [e, BitVec.toNat_shiftLeft, Nat.shiftLeft_eq]
  refine Nat.lt_of_le_of_lt (Nat.mod_le _ _) ?_
  rw [Nat.pow_add]
  exact Nat.mul_lt_mul_of_pos_right ha (Nat.two_pow_pos k)
section LET
variable {d : Nat}
theorem me_letC {zb zk : Int} (hb : 0 ≤ zb) (hk : zk ≤ 241) (h6 : zk - zb ≤ 6) : ∀ (N : Nat) (zj : Int) (h : sm_H), ab_Sh sx_sk h → zj < N → -1 ≤ zj → zj < zk → (zb ≤ zj → zj < 240) → (∀ j, zb ≤ j → j < zk → 97 ≤ mi_a h 110 j.toNat ∧ mi_a h 110 j.toNat ≤ 122) → (mx_l h 14004).toBitVec.toNat < 2 ^ (5 * (zk - 1 - zj).toNat) → zb - 1 ≤ zj → me_E (d + 1) 181 54 [some (.inr (.inr 109)), some (.inl zb), some (.inl zk), some (.inl zj)] [] h (fun w h' => w = some (.inl zk) ∧ ab_Sh sx_sk h' ∧ ab_Fr [(14004, 14005)] h h') := by
  intro N
  induction N with
  | zero =>
    intro zj h hS h1 h2 h3 h4 h5 h6 h7
    have ok_zb : mi_in zb := ⟨by omega, by omega⟩
    have ok_zk : mi_in zk := ⟨by omega, by omega⟩
    refine mt_letC hS ok_zb ok_zk ⟨by omega, by omega⟩ ?_ ?_
    · intro c h1 g1 g2
      exact ⟨rfl, g1, g2.wide (fun c hc => by cases hc)⟩
    · intro c
      exfalso; omega
  | succ N ih =>
    intro zj h hS h1 h2 h3 h4 h5 hv h7
    have ok_zb : mi_in zb := ⟨by omega, by omega⟩
    have ok_zk : mi_in zk := ⟨by omega, by omega⟩
    refine mt_letC hS ok_zb ok_zk ⟨by omega, by omega⟩ ?_ ?_
    · intro c h1 g1 g2
      exact ⟨rfl, g1, g2.wide (fun c hc => by cases hc)⟩
    · intro c
      have h240 := h4 c
      obtain ⟨c1, c2⟩ := h5 zj c h3
      have okc : mi_in (mi_a h 110 zj.toNat) := ⟨by omega, by omega⟩
      generalize hx : mi_a h 110 (Int.toNat zj) = x at c1 c2 okc
      have e5 : (zk - 1 - (zj - 1)).toNat = (zk - 1 - zj).toNat + 1 := by omega
      have ex : ((Int32.ofInt x).toInt64 - Int64.ofNat 96).toInt = x - 96 := by
        rw [Int64.toInt_sub, Int32.toInt_toInt64, mi_ti okc]
        have : (Int64.ofNat 96).toInt = 96 := rfl
        rw [this]
        exact Int.bmod_eq_of_le (by omega) (by omega)
      have hxn : ((Int32.ofInt x).toInt64 - Int64.ofNat 96).toBitVec.toNat < 2 ^ 5 := by
        have e2 : ((Int32.ofInt x).toInt64 - Int64.ofNat 96).toBitVec.toInt = x - 96 := ex
        have e3 := BitVec.toInt_eq_toNat_cond ((Int32.ofInt x).toInt64 - Int64.ofNat 96).toBitVec
        have e4 := ((Int32.ofInt x).toInt64 - Int64.ofNat 96).toBitVec.isLt
        split at e3 <;> omega
      have hsh := lg_shl (a := mx_l h 14004) (s := (Int32.ofInt ((5 : Int))).toInt64 &&& 63) (k := 5) (by decide) (by omega) hv
      have hor := lg_or hsh (Nat.lt_of_lt_of_le hxn (Nat.pow_le_pow_right (by decide) (Nat.le_add_left 5 _)))
      have hle : 5 * (zk - 1 - zj).toNat + 5 ≤ 30 := by omega
      have hbd := lg_toInt (by omega) hor
      have hpw : (2 : Int) ^ (5 * (zk - 1 - zj).toNat + 5) ≤ 2 ^ 30 := by
        have : (2 : Nat) ^ (5 * (zk - 1 - zj).toNat + 5) ≤ 2 ^ 30 := Nat.pow_le_pow_right (by decide) hle
        exact_mod_cast this
      refine ⟨⟨by omega, ?_, by omega⟩, fun h1 g1 g2 g3 => ?_⟩
      · omega
      · have ea : ∀ j, mi_a h1 110 j = mi_a h 110 j := fun j => me_a (k := 110) g3 hS rfl rfl
        refine (ih _ h1 g1 (by omega) (by omega) (by omega) (by omega) (fun j j1 j2 => by rw [ea]; exact h5 j j1 j2) ?_ (by omega)).imp (fun w h' hq => ⟨hq.1, hq.2.1, g3.trans hq.2.2⟩)
        have e6 : 5 * (zk - 1 - (zj + -1)).toNat = 5 * (zk - 1 - zj).toNat + 5 := by omega
        rw [e6, g2]
        exact hor
theorem me_letB {zb : Int} (hb0 : 0 ≤ zb) (hb1 : zb ≤ 241) : ∀ (N : Nat) (zk : Int) (h : sm_H), ab_Sh sx_sk h → 241 - zk < N → zb ≤ zk → zk ≤ 241 → (zb ≤ 240 → zk ≤ 240) → (∀ j, zb ≤ j → j < zk → j < 240 ∧ 97 ≤ mi_a h 110 j.toNat ∧ mi_a h 110 j.toNat ≤ 122) → me_E (d + 1) 181 2 [some (.inr (.inr 109)), some (.inl zb), some (.inl zk), none] [] h (fun w h' => (∃ z, w = some (.inl z) ∧ zb ≤ z ∧ z ≤ 241 ∧ (zb ≤ 240 → z ≤ 240)) ∧ ab_Sh sx_sk h' ∧ ab_Fr [(14004, 14005)] h h') := by
  intro N
  induction N with
  | zero => intro zk h hS h1 h2 h3; omega
  | succ N ih =>
    intro zk h hS h1 h2 h3 h4 h5
    have ok_zb : mi_in zb := ⟨by omega, by omega⟩
    have ok_zk : mi_in zk := ⟨by omega, by omega⟩
    have fin : zk - zb ≤ 6 → ∀ h1, ab_Sh sx_sk h1 → mx_l h1 14004 = Int64.ofNat 0 → ab_Fr [(14004, 14005)] h h1 → me_E (d + 1) 181 54 [some (.inr (.inr 109)), some (.inl zb), some (.inl zk), some (.inl (zk - 1))] [] h1 (fun w h' => (∃ z, w = some (.inl z) ∧ zb ≤ z ∧ z ≤ 241 ∧ (zb ≤ 240 → z ≤ 240)) ∧ ab_Sh sx_sk h' ∧ ab_Fr [(14004, 14005)] h h') := by
      intro h6 h1 g1 g2 g3
      have ea : ∀ j, mi_a h1 110 j = mi_a h 110 j := fun j => me_a (k := 110) g3 hS rfl rfl
      refine (me_letC hb0 h3 h6 300 (zk - 1) h1 g1 (by omega) (by omega) (by omega) (fun c => (h5 (zk - 1) c (by omega)).1) (fun j j1 j2 => by rw [ea]; exact (h5 j j1 j2).2) ?_ (by omega)).imp (fun w h' hq => ⟨⟨zk, hq.1, h2, h3, h4⟩, hq.2.1, g3.trans hq.2.2⟩)
      rw [g2]
      have : (zk - 1 - (zk - 1)).toNat = 0 := by omega
      rw [this]
      decide
    refine mt_letB hS ok_zb ok_zk ?_ ?_ ?_ ?_ ?_ ?_ ?_
    · intro b c1 c2
      exact ⟨by omega, fun h1 g1 g2 g3 => fin c2 h1 g1 g2 g3⟩
    · intro b c1 c2
      exact ⟨by omega, fun h1 g1 g2 g3 => ⟨⟨zk, rfl, h2, h3, h4⟩, g1, g3⟩⟩
    · intro b c1 c2 c3
      exact ⟨by omega, fun h1 g1 g2 g3 => fin c3 h1 g1 g2 g3⟩
    · intro b c1 c2 c3
      exact ⟨by omega, fun h1 g1 g2 g3 => ⟨⟨zk, rfl, h2, h3, h4⟩, g1, g3⟩⟩
    · intro b c1 c2 c3 c4
      exact ⟨by omega, fun h1 g1 g2 g3 => fin c4 h1 g1 g2 g3⟩
    · intro b c1 c2 c3 c4
      exact ⟨by omega, fun h1 g1 g2 g3 => ⟨⟨zk, rfl, h2, h3, h4⟩, g1, g3⟩⟩
    · intro b c1 c2 c3
      refine ⟨by omega, fun h1 g1 g2 => ?_⟩
      have ea : ∀ j, mi_a h1 110 j = mi_a h 110 j := fun j => me_a (k := 110) g2 hS rfl rfl
      refine (ih _ h1 g1 (by omega) (by omega) (by omega) (by omega) (fun j j1 j2 => ?_)).imp (fun w h' hq => ⟨hq.1, hq.2.1, (g2.wide (fun c hc => by cases hc)).trans hq.2.2⟩)
      by_cases ej : j = zk
      · rw [ea, ej]
        exact ⟨by omega, c2, c3⟩
      · rw [ea]
        exact h5 j j1 (by omega)
theorem me_letters {zb : Int} {h : sm_H} (hS : ab_Sh sx_sk h) (hb0 : 0 ≤ zb) (hb1 : zb ≤ 241) : me_E (d + 1) 181 0 [some (.inr (.inr 109)), some (.inl zb), none, none] [] h (fun w h' => (∃ z, w = some (.inl z) ∧ zb ≤ z ∧ z ≤ 241 ∧ (zb ≤ 240 → z ≤ 240)) ∧ ab_Sh sx_sk h' ∧ ab_Fr [(14004, 14005)] h h') := by
  refine mt_letA hS ⟨by omega, by omega⟩ ?_
  intro h1 g1 g2
  exact (me_letB hb0 hb1 300 zb h1 g1 (by omega) (by omega) hb1 (fun h => h) (fun j j1 j2 => by omega)).imp (fun w h' hq => ⟨hq.1, hq.2.1, (g2.wide (fun c hc => by cases hc)).trans hq.2.2⟩)
def xc_letters0 : ab_C := (181, [(3, 109, 0, []), (1, 0, 240, [])], [], [((1, 0, 240, []), [])], [(14004, 14005)], 1)
def xc_letters1 : ab_C := (181, [(3, 109, 0, []), (1, 0, 241, [])], [], [((1, 0, 241, []), [])], [(14004, 14005)], 1)
theorem me_lettersOk (hi : Int) (h240 : hi = 240 ∨ hi = 241) : ab_Ok sc_P sx_sk (181, [(3, 109, 0, []), (1, 0, hi, [])], [], [((1, 0, hi, []), [])], [(14004, 14005)], 1) := by
  intro h as M hM hSh has hpre
  have eM : M = (4, 1, sb_181) := (Option.some.inj (hM.symm.trans (show sc_P 181 = some (4, 1, sb_181) from rfl)))
  subst eM
  match as, has with
  | [a, b], ⟨ha, hb, _⟩ =>
    have ea : a = .ref 109 := Option.some.inj (ab_kd3 ha rfl)
    obtain ⟨x, ex, h1, h2, -⟩ := ab_kd1 hb rfl
    have eb : b = .int x := Option.some.inj ex
    subst ea
    subst eb
    have h1 : 0 ≤ x.toInt := h1
    have h2 : x.toInt ≤ hi := h2
    have := me_letters (d := 0) (zb := x.toInt) hSh h1 (by omega)
    unfold me_E at this
    have el : mi_cl [some (.inr (.inr 109)), some (.inl x.toInt), none, none] = sm_entry 4 [.ref 109, .int x] := by
      show [some (Value.ref 109), some (mi_c (.inl x.toInt)), none, none] = _
      rw [mi_cT]
      rfl
    rw [el] at this
    refine ab_Ends.imp this (fun v h' hq => ?_)
    obtain ⟨w, e1, e2, ⟨z, e3, e4, e5, e6⟩, e7, e8⟩ := hq
    subst e3
    refine ⟨e7, e8, _, List.mem_cons_self, ?_, fun e he => by cases he⟩
    unfold ab_res
    rw [if_neg (by decide), e1]
    exact ⟨fun _ => me_nv1 (e2 _ rfl) (by omega) (by omega), by simp⟩
theorem xo_letters0 : ab_Ok sc_P sx_sk xc_letters0 := me_lettersOk 240 (Or.inl rfl)
theorem xo_letters1 : ab_Ok sc_P sx_sk xc_letters1 := me_lettersOk 241 (Or.inr rfl)
end LET
section KW
variable {d : Nat}
theorem lg_cmp0 {x y : Int64} (h : (lg_cmp x y).toInt = 0) : x = y := by
  unfold lg_cmp at h
  split at h
  · exfalso; revert h; decide
  · split at h
    · next e => exact e
    · exfalso; revert h; decide
theorem me_kwB {zw : Int64} : ∀ (N : Nat) (zl : Int) (h : sm_H), ab_Sh sx_sk h → 20 - zl < N → 0 ≤ zl → zl ≤ 20 → me_E d 216 2 [some (.inr (.inr 109)), some (.inr (.inl zw)), none, some (.inl zl)] [] h (fun w h' => ab_Sh sx_sk h' ∧ ab_Fr [] h h' ∧ ∃ z, w = some (.inl z) ∧ -1 ≤ z ∧ z < 20 ∧ (0 ≤ z → mx_b h 118 z.toNat = zw)) := by
  intro N
  induction N with
  | zero => intro zl h hS h1 h2 h3; omega
  | succ N ih =>
    intro zl h hS h1 h2 h3
    have ok : mi_in zl := ⟨by omega, by omega⟩
    have back : ∀ h1, ab_Sh sx_sk h1 → ab_Fr [] h h1 → zl < mi_f h 13962 → mi_f h 13962 ≤ 20 → me_E d 216 2 [some (.inr (.inr 109)), some (.inr (.inl zw)), none, some (.inl (zl + 1))] [] h1 (fun w h' => ab_Sh sx_sk h' ∧ ab_Fr [] h h' ∧ ∃ z, w = some (.inl z) ∧ -1 ≤ z ∧ z < 20 ∧ (0 ≤ z → mx_b h 118 z.toNat = zw)) := by
      intro h1 g1 g2 c b
      refine (ih _ h1 g1 (by omega) (by omega) (by omega)).imp (fun w h' hq => ⟨hq.1, g2.trans hq.2.1, ?_⟩)
      obtain ⟨z, z1, z2, z3, z4⟩ := hq.2.2
      exact ⟨z, z1, z2, z3, fun h0 => (me_b (k := 118) g2 hS rfl rfl).symm.trans (z4 h0)⟩
    refine mt_kwB hS ok ?_ ?_ ?_ ?_
    · intro b c1 h1 g1 g2
      exact ⟨g1, g2, -1, rfl, by decide, by decide, fun h => absurd h (by decide)⟩
    · intro b c1 c2
      exact ⟨by omega, fun h1 g1 g2 => back h1 g1 g2 c1 b.2⟩
    · intro b c1 c2 c3
      exact ⟨by omega, fun h1 g1 g2 => back h1 g1 g2 c1 b.2⟩
    · intro b c1 c2 c3
      exact ⟨by omega, fun h1 g1 g2 => ⟨g1, g2, zl, rfl, by omega, by omega, fun _ => lg_cmp0 c3⟩⟩
theorem me_keywordOf {zw : Int64} {h : sm_H} (hS : ab_Sh sx_sk h) : me_E d 216 0 [some (.inr (.inr 109)), some (.inr (.inl zw)), none, none] [] h (fun w h' => ab_Sh sx_sk h' ∧ ab_Fr [] h h' ∧ ∃ z, w = some (.inl z) ∧ -1 ≤ z ∧ z < 20 ∧ (0 ≤ z → mx_b h 118 z.toNat = zw)) := by
  refine mt_kwA hS ?_
  intro h1 g1 g2
  refine (me_kwB 30 0 h1 g1 (by omega) (by omega) (by omega)).imp (fun w h' hq => ⟨hq.1, g2.trans hq.2.1, ?_⟩)
  obtain ⟨z, z1, z2, z3, z4⟩ := hq.2.2
  exact ⟨z, z1, z2, z3, fun h0 => (me_b (k := 118) g2 hS rfl rfl).symm.trans (z4 h0)⟩
end KW
