/-! TOKENS of a description, purely: n characters c -/
def tx_low (c : Int) : Prop := 97 ≤ c ∧ c ≤ 122
def tx_dig (c : Int) : Prop := 48 ≤ c ∧ c ≤ 57
def tx_cap (c : Int) : Prop := 65 ≤ c ∧ c ≤ 90
def tx_blk (c : Int) : Prop := c = 32 ∨ c = 10
def tx_own (c : Int) : Prop := c = 61 ∨ c = 59 ∨ c = 124 ∨ c = 42 ∨ c = 63 ∨ c = 40 ∨ c = 41 ∨ c = 126 ∨ c = 43
def tx_sg (c : Int) : Prop := 32 < c ∧ c < 127 ∧ ¬ tx_low c ∧ ¬ tx_dig c ∧ ¬ tx_cap c
/-- from k on the characters are of the kind p, up to e -/
def tx_end (p : Int → Prop) (n : Int) (c : Nat → Int) (k e : Int) : Prop := k ≤ e ∧ (∀ j, k ≤ j → j < e → j < n ∧ p (c j.toNat)) ∧ ¬ (e < n ∧ p (c e.toNat))
theorem tx_end_u {p : Int → Prop} {n : Int} {c : Nat → Int} {k e e' : Int} (h : tx_end p n c k e) (h' : tx_end p n c k e') : e = e' := by
  obtain ⟨a1, a2, a3⟩ := h
  obtain ⟨b1, b2, b3⟩ := h'
  rcases Int.lt_trichotomy e e' with x | x | x
  · exact absurd (b2 e a1 x) a3
  · exact x
  · exact absurd (a2 e' b1 x) b3
theorem tx_end_n {p : Int → Prop} {n : Int} {c : Nat → Int} {k e : Int} (h : tx_end p n c k e) (hk : k ≤ n) : e ≤ n := by
  rcases Int.lt_or_le n e with x | x
  · by_cases c : k < e
    · have := (h.2.1 (e - 1) (by omega) (by omega)).1
      omega
    · omega
  · exact x
/-- letters, five bits each, the first one lowest -/
def tx_code (c : Nat → Int) (k : Int) : Nat → Int
  | 0 => 0
  | m + 1 => (c k.toNat - 96) + 32 * tx_code c (k + 1) m
theorem tx_code_b {c : Nat → Int} : ∀ (m : Nat) (k : Int), (∀ j, k ≤ j → j < k + m → tx_low (c j.toNat)) → 0 ≤ tx_code c k m ∧ tx_code c k m < 32 ^ m := by
  intro m
  induction m with
  | zero => intro k _; exact ⟨Int.le_refl _, show (0 : Int) < 32 ^ 0 from by decide⟩
  | succ m ih =>
    intro k h
    obtain ⟨i1, i2⟩ := ih (k + 1) (fun j j0 j1 => h j (by omega) (by omega))
    obtain ⟨x1, x2⟩ := h k (Int.le_refl _) (by omega)
    have e : (32 : Int) ^ (m + 1) = 32 * 32 ^ m := by rw [Int.pow_succ, Int.mul_comm]
    show 0 ≤ (c k.toNat - 96) + 32 * tx_code c (k + 1) m ∧ (c k.toNat - 96) + 32 * tx_code c (k + 1) m < 32 ^ (m + 1)
    omega
/-- the token at a: its kind t, its worth v, its place p, where it ends e (v and e: only of those that are tokens) -/
def tk_T (n : Int) (c : Nat → Int) (a t v p e : Int) : Prop :=
  tx_end tx_blk n c a p ∧ ((p = n ∧ t = 0) ∨ (p < n ∧ (
    (tx_low (c p.toNat) ∧ t = 1 ∧ tx_end tx_low n c p e ∧ ((6 < e - p ∧ v = -1) ∨ (e - p ≤ 6 ∧ v = tx_code c p (e - p).toNat))) ∨
    (tx_cap (c p.toNat) ∧ t = 2 ∧ v = c p.toNat - 65 ∧ e = p + 1) ∨
    (tx_dig (c p.toNat) ∧ t = 5 ∧ v = c p.toNat - 48 ∧ e = p + 1) ∨
    (c p.toNat = 34 ∧ ∃ q, tx_end tx_low n c (p + 1) q ∧ ((p + 1 < q ∧ q - (p + 1) < 6 ∧ q < n ∧ c q.toNat = 34 ∧ t = 3 ∧ v = tx_code c (p + 1) (q - (p + 1)).toNat ∧ e = q + 1) ∨ (¬ (p + 1 < q ∧ q - (p + 1) < 6 ∧ q < n ∧ c q.toNat = 34) ∧ t = 6))) ∨
    (c p.toNat = 39 ∧ ((p + 1 < n ∧ tx_sg (c (p + 1).toNat) ∧ t = 4 ∧ v = c (p + 1).toNat ∧ e = p + 2) ∨ (¬ (p + 1 < n ∧ tx_sg (c (p + 1).toNat)) ∧ t = 6))) ∨
    (tx_own (c p.toNat) ∧ t = c p.toNat ∧ v = 0 ∧ e = p + 1) ∨
    (¬ tx_low (c p.toNat) ∧ ¬ tx_cap (c p.toNat) ∧ ¬ tx_dig (c p.toNat) ∧ c p.toNat ≠ 34 ∧ c p.toNat ≠ 39 ∧ ¬ tx_own (c p.toNat) ∧ t = 6))))
/-- there is but one -/
theorem tk_u {n : Int} {c : Nat → Int} {a t v p e t' v' p' e' : Int} (h : tk_T n c a t v p e) (h' : tk_T n c a t' v' p' e') : t = t' ∧ p = p' ∧ (t ≠ 0 → t ≠ 6 → v = v' ∧ e = e') := by
  obtain ⟨h1, h2⟩ := h
  obtain ⟨g1, g2⟩ := h'
  have ep := tx_end_u h1 g1
  subst ep
  rcases h2 with ⟨x1, x2⟩ | ⟨x1, x2⟩
  · rcases g2 with ⟨y1, y2⟩ | ⟨y1, y2⟩
    · exact ⟨by omega, rfl, fun c => absurd x2 c⟩
    · omega
  rcases g2 with ⟨y1, y2⟩ | ⟨y1, y2⟩
  · omega
  unfold tx_low tx_cap tx_dig tx_own at x2 y2
  rcases x2 with ⟨x3, x4, x5, x6⟩ | ⟨x3, x4, x5, x6⟩ | ⟨x3, x4, x5, x6⟩ | ⟨x3, q, x5, x6⟩ | ⟨x3, x4⟩ | ⟨x3, x4, x5, x6⟩ | ⟨x3, x4, x5, x6, x7, x8, x9⟩
  · rcases y2 with ⟨y3, y4, y5, y6⟩ | ⟨y3, -⟩ | ⟨y3, -⟩ | ⟨y3, -⟩ | ⟨y3, -⟩ | ⟨y3, -⟩ | ⟨y3, -⟩
    · have ee := tx_end_u x5 y5
      subst ee
      refine ⟨by omega, rfl, fun _ _ => ⟨?_, rfl⟩⟩
      rcases x6 with ⟨u1, u2⟩ | ⟨u1, u2⟩ <;> rcases y6 with ⟨w1, w2⟩ | ⟨w1, w2⟩ <;> omega
    all_goals (exfalso; omega)
  · rcases y2 with ⟨y3, -⟩ | ⟨y3, y4, y5, y6⟩ | ⟨y3, -⟩ | ⟨y3, -⟩ | ⟨y3, -⟩ | ⟨y3, -⟩ | ⟨y3, y3b, y3c, -⟩
    · exfalso; omega
    · exact ⟨by omega, rfl, fun _ _ => ⟨by omega, by omega⟩⟩
    all_goals (exfalso; omega)
  · rcases y2 with ⟨y3, -⟩ | ⟨y3, -⟩ | ⟨y3, y4, y5, y6⟩ | ⟨y3, -⟩ | ⟨y3, -⟩ | ⟨y3, -⟩ | ⟨y3, y3b, y3c, -⟩
    · exfalso; omega
    · exfalso; omega
    · exact ⟨by omega, rfl, fun _ _ => ⟨by omega, by omega⟩⟩
    all_goals (exfalso; omega)
  · rcases y2 with ⟨y3, -⟩ | ⟨y3, -⟩ | ⟨y3, -⟩ | ⟨y3, q', y5, y6⟩ | ⟨y3, -⟩ | ⟨y3, -⟩ | ⟨y3, y3b, y3c, y3d, -⟩
    · exfalso; omega
    · exfalso; omega
    · exfalso; omega
    · have eq := tx_end_u x5 y5
      subst eq
      rcases x6 with ⟨u1, u2, u3, u4, u5, u6, u7⟩ | ⟨u1, u2⟩
      · rcases y6 with ⟨w1, w2, w3, w4, w5, w6, w7⟩ | ⟨w1, w2⟩
        · exact ⟨by omega, rfl, fun _ _ => ⟨by omega, by omega⟩⟩
        · exact absurd ⟨u1, u2, u3, u4⟩ w1
      · rcases y6 with ⟨w1, w2, w3, w4, w5, w6, w7⟩ | ⟨w1, w2⟩
        · exact absurd ⟨w1, w2, w3, w4⟩ u1
        · exact ⟨by omega, rfl, fun _ c => absurd u2 c⟩
    all_goals (exfalso; omega)
  · rcases y2 with ⟨y3, -⟩ | ⟨y3, -⟩ | ⟨y3, -⟩ | ⟨y3, -⟩ | ⟨y3, y4⟩ | ⟨y3, -⟩ | ⟨y3, y3b, y3c, y3d, y3e, -⟩
    · exfalso; omega
    · exfalso; omega
    · exfalso; omega
    · exfalso; omega
    · rcases x4 with ⟨u1, u2, u3, u4, u5⟩ | ⟨u1, u2⟩
      · rcases y4 with ⟨w1, w2, w3, w4, w5⟩ | ⟨w1, w2⟩
        · exact ⟨by omega, rfl, fun _ _ => ⟨by omega, by omega⟩⟩
        · exact absurd ⟨u1, u2⟩ w1
      · rcases y4 with ⟨w1, w2, w3, w4, w5⟩ | ⟨w1, w2⟩
        · exact absurd ⟨w1, w2⟩ u1
        · exact ⟨by omega, rfl, fun _ c => absurd u2 c⟩
    all_goals (exfalso; omega)
  · rcases y2 with ⟨y3, -⟩ | ⟨y3, -⟩ | ⟨y3, -⟩ | ⟨y3, -⟩ | ⟨y3, -⟩ | ⟨y3, y4, y5, y6⟩ | ⟨y3, y3b, y3c, y3d, y3e, y3f, -⟩
    · exfalso; omega
    · exfalso; omega
    · exfalso; omega
    · exfalso; omega
    · exfalso; omega
    · exact ⟨by omega, rfl, fun _ _ => ⟨by omega, by omega⟩⟩
    · exact absurd x3 y3f
  · rcases y2 with ⟨y3, -⟩ | ⟨y3, -⟩ | ⟨y3, -⟩ | ⟨y3, -⟩ | ⟨y3, -⟩ | ⟨y3, -⟩ | ⟨y3, y3b, y3c, y3d, y3e, y3f, y3g⟩
    · exact absurd y3 x3
    · exact absurd y3 x4
    · exact absurd y3 x5
    · exact absurd y3 x6
    · exact absurd y3 x7
    · exact absurd y3 x8
    · exact ⟨by omega, rfl, fun _ c => absurd x9 c⟩
/-- one letter more in front -/
theorem tx_pack {V : Int64} {X : Int} (v0 : 0 ≤ V.toInt) (v1 : V.toInt < 33554432) (x0 : 97 ≤ X) (x1 : X ≤ 122) : ((V <<< ((Int32.ofInt ((5 : Int))).toInt64 &&& 63)) ||| ((Int32.ofInt X).toInt64 - Int64.ofNat 96)).toInt = (X - 96) + 32 * V.toInt := by
  have okc : mi_in X := ⟨by omega, by omega⟩
  have ex : ((Int32.ofInt X).toInt64 - Int64.ofNat 96).toInt = X - 96 := by
    rw [Int64.toInt_sub, Int32.toInt_toInt64, mi_ti okc]
    have : (Int64.ofNat 96).toInt = 96 := rfl
    rw [this]
    exact Int.bmod_eq_of_le (by omega) (by omega)
  have toN : ∀ {a : Int64} {z : Int}, a.toInt = z → 0 ≤ z → z < 4611686018427387904 → (a.toBitVec.toNat : Int) = z := fun {a z} h h0 h1 => by
    have e2 : a.toBitVec.toInt = z := h
    have e3 := BitVec.toInt_eq_toNat_cond a.toBitVec
    have e4 := a.toBitVec.isLt
    split at e3 <;> omega
  have nX := toN ex (by omega) (by omega)
  have nV := toN (a := V) rfl v0 (by omega)
  generalize hA : ((Int32.ofInt X).toInt64 - Int64.ofNat 96) = A at ex nX
  have e5 : ((Int32.ofInt ((5 : Int))).toInt64 &&& 63).toBitVec.smod 64 = BitVec.ofNat 64 5 := by decide
  have main : ((V <<< ((Int32.ofInt ((5 : Int))).toInt64 &&& 63)) ||| A).toBitVec.toNat = V.toBitVec.toNat * 32 + A.toBitVec.toNat := by
    rw [Int64.toBitVec_or, BitVec.toNat_or, Int64.toBitVec_shiftLeft, e5]
    have e : (V.toBitVec <<< BitVec.ofNat 64 5) = V.toBitVec <<< 5 := by
      rw [BitVec.shiftLeft_eq', BitVec.toNat_ofNat]
    rw [e, BitVec.toNat_shiftLeft, Nat.mod_eq_of_lt (by rw [Nat.shiftLeft_eq]; omega), ← Nat.shiftLeft_add_eq_or_of_lt (by omega), Nat.shiftLeft_eq]
  show ((V <<< ((Int32.ofInt ((5 : Int))).toInt64 &&& 63)) ||| A).toBitVec.toInt = _
  rw [BitVec.toInt_eq_toNat_of_lt (by rw [main]; omega), main]
  omega
/-! the reference's scan, exactly -/
section SCX
variable {d : Nat} {h0 : sm_H} {zb zk : Int}
theorem lx54 (hS0 : ab_Sh sx_sk h0) (b0 : 0 ≤ zb) (bk : zb ≤ zk) (k6 : zk - zb ≤ 6) (k1 : zk ≤ 240) (hl : ∀ j, zb ≤ j → j < zk → tx_low (mi_a h0 110 j.toNat)) : ∀ (N : Nat) (zj : Int) (h : sm_H), zj - zb + 1 < N → zb - 1 ≤ zj → zj < zk → ab_Sh sx_sk h → ab_Fr [(14004, 14005)] h0 h → (mx_l h 14004).toInt = tx_code (mi_a h0 110) (zj + 1) (zk - 1 - zj).toNat → me_E (d + 1) 181 54 [some (.inr (.inr 109)), some (.inl zb), some (.inl zk), some (.inl zj)] [] h (fun w h' => w = some (.inl zk) ∧ ab_Sh sx_sk h' ∧ ab_Fr [(14004, 14005)] h0 h' ∧ (mx_l h' 14004).toInt = tx_code (mi_a h0 110) zb (zk - zb).toNat) := by
  intro N
  induction N with
  | zero => intro zj h hN j0; exfalso; omega
  | succ N ih =>
    intro zj h hN j0 j1 hS hF hv
    have ob : mi_in zb := ⟨by omega, by omega⟩
    have ok : mi_in zk := ⟨by omega, by omega⟩
    have oj : mi_in zj := ⟨by omega, by omega⟩
    refine mt_lxD hS ob ok oj ?_ ?_
    · intro c h1 g1 g2
      have e := me_nil g2
      subst e
      have ej : zj = zb - 1 := by omega
      subst ej
      refine ⟨rfl, hS, hF, ?_⟩
      rw [hv, show zb - 1 + 1 = zb by omega, show zk - 1 - (zb - 1) = zk - zb by omega]
    · intro c
      have ea : mi_a h 110 zj.toNat = mi_a h0 110 zj.toNat := me_a (k := 110) hF hS0 rfl rfl
      obtain ⟨x0, x1⟩ := hl zj c j1
      have em : (zk - 1 - zj).toNat + 1 = (zk - 1 - (zj - 1)).toNat := by omega
      have cb := tx_code_b (c := mi_a h0 110) (zk - 1 - zj).toNat (zj + 1) (fun j a1 a2 => hl j (by omega) (by omega))
      have p5 : (32 : Int) ^ (zk - 1 - zj).toNat ≤ 32 ^ 5 := by
        have : (32 : Nat) ^ (zk - 1 - zj).toNat ≤ 32 ^ 5 := Nat.pow_le_pow_right (by decide) (by omega)
        exact_mod_cast this
      have e32 : (32 : Int) ^ 5 = 33554432 := by decide
      have pk := tx_pack (V := mx_l h 14004) (X := mi_a h0 110 zj.toNat) (by omega) (by omega) x0 x1
      rw [ea, pk, hv]
      refine ⟨⟨⟨by omega, by omega⟩, ⟨by omega, by omega⟩, ⟨by omega, by omega⟩⟩, fun h1 g1 g2 g3 => ?_⟩
      refine ih (zj + -1) h1 (by omega) (by omega) (by omega) g1 (hF.trans g3) ?_
      rw [g2, pk, hv, show zk - 1 - (zj + -1) = zk - 1 - (zj - 1) by omega, ← em, show zj + -1 + 1 = zj by omega]
      rfl
theorem lx2 (hS0 : ab_Sh sx_sk h0) (b0 : 0 ≤ zb) : ∀ (N : Nat) (zk : Int), 240 - zk < N → zb ≤ zk → zk ≤ mi_f h0 13953 → (∀ j, zb ≤ j → j < zk → j < mi_f h0 13953 ∧ tx_low (mi_a h0 110 j.toNat)) → me_E (d + 1) 181 2 [some (.inr (.inr 109)), some (.inl zb), some (.inl zk), none] [] h0 (fun w h' => ∃ e, w = some (.inl e) ∧ tx_end tx_low (mi_f h0 13953) (mi_a h0 110) zb e ∧ ab_Sh sx_sk h' ∧ ab_Fr [(14004, 14005)] h0 h' ∧ ((6 < e - zb ∧ (mx_l h' 14004).toInt = -1) ∨ (e - zb ≤ 6 ∧ (mx_l h' 14004).toInt = tx_code (mi_a h0 110) zb (e - zb).toNat))) := by
  have bn := me_fb (c := 13953) hS0 rfl
  intro N
  induction N with
  | zero => intro zk hN j0 j1; exfalso; omega
  | succ N ih =>
    intro zk hN j0 j1 hl
    have ob : mi_in zb := ⟨by omega, by omega⟩
    have ok : mi_in zk := ⟨by omega, by omega⟩
    have fin : ¬ (zk < mi_f h0 13953 ∧ tx_low (mi_a h0 110 zk.toNat)) → me_E (d + 1) 181 28 [some (.inr (.inr 109)), some (.inl zb), some (.inl zk), none] [] h0 (fun w h' => ∃ e, w = some (.inl e) ∧ tx_end tx_low (mi_f h0 13953) (mi_a h0 110) zb e ∧ ab_Sh sx_sk h' ∧ ab_Fr [(14004, 14005)] h0 h' ∧ ((6 < e - zb ∧ (mx_l h' 14004).toInt = -1) ∨ (e - zb ≤ 6 ∧ (mx_l h' 14004).toInt = tx_code (mi_a h0 110) zb (e - zb).toNat))) := fun hc => by
      have he : tx_end tx_low (mi_f h0 13953) (mi_a h0 110) zb zk := ⟨j0, hl, hc⟩
      refine mt_lxC hS0 ob ok ?_ ?_
      · intro c
        refine ⟨⟨⟨by omega, by omega⟩, ⟨by omega, by omega⟩⟩, fun h1 g1 g2 g3 => ?_⟩
        refine (lx54 hS0 b0 j0 c (by omega) (fun j a1 a2 => (hl j a1 a2).2) 8 (zk - 1) h1 (by omega) (by omega) (by omega) g1 g3 ?_).imp (fun w h' hq => ?_)
        · rw [g2, show zk - 1 - (zk - 1) = 0 by omega]
          rfl
        · obtain ⟨q1, q2, q3, q4⟩ := hq
          exact ⟨zk, q1, he, q2, q3, Or.inr ⟨c, q4⟩⟩
      · intro c
        refine ⟨⟨by omega, by omega⟩, fun h1 g1 g2 g3 => ⟨zk, rfl, he, g1, g3, Or.inl ⟨c, ?_⟩⟩⟩
        rw [g2]
        decide
    refine mt_lxB hS0 ob ok ?_ ?_ ?_ ?_
    · intro b c h1 g1 g2
      have e := me_nil g2
      subst e
      exact fin (fun x => by omega)
    · intro b c c2
      refine ⟨⟨by omega, by omega⟩, fun h1 g1 g2 => ?_⟩
      have e := me_nil g2
      subst e
      exact fin (fun x => by have := x.2.1; omega)
    · intro b c c2 c3
      refine ⟨⟨by omega, by omega⟩, fun h1 g1 g2 => ?_⟩
      have e := me_nil g2
      subst e
      exact fin (fun x => by have := x.2.2; omega)
    · intro b c c2 c3
      refine ⟨⟨⟨by omega, by omega⟩, ⟨by omega, by omega⟩⟩, fun h1 g1 g2 => ?_⟩
      have e := me_nil g2
      subst e
      refine ih (zk + 1) (by omega) (by omega) (by omega) (fun j a1 a2 => ?_)
      by_cases ej : j = zk
      · subst ej
        exact ⟨c, c2, c3⟩
      · exact hl j a1 (by omega)
def lx_Q (h0 : sm_H) (zb : Int) (w : Option mi_V) (h' : sm_H) : Prop := ∃ e, w = some (.inl e) ∧ tx_end tx_low (mi_f h0 13953) (mi_a h0 110) zb e ∧ ab_Sh sx_sk h' ∧ ab_Fr [(14004, 14005)] h0 h' ∧ ((6 < e - zb ∧ (mx_l h' 14004).toInt = -1) ∨ (e - zb ≤ 6 ∧ (mx_l h' 14004).toInt = tx_code (mi_a h0 110) zb (e - zb).toNat))
theorem me_lettersx (hS0 : ab_Sh sx_sk h0) (b0 : 0 ≤ zb) (b1 : zb ≤ mi_f h0 13953) : me_E (d + 1) 181 0 [some (.inr (.inr 109)), some (.inl zb), none, none] [] h0 (lx_Q h0 zb) := by
  have bn := me_fb (c := 13953) hS0 rfl
  refine mt_lxA hS0 ⟨by omega, by omega⟩ (fun h1 g1 g2 => ?_)
  have e := me_nil g2
  subst e
  exact lx2 hS0 b0 242 zb (by omega) (by omega) b1 (fun j a1 a2 => by omega)
/-- what scan leaves: the token at the place where it began -/
def sx_Q (h0 : sm_H) (a : Int) (w : Option mi_V) (h' : sm_H) : Prop := w = none ∧ ab_Sh sx_sk h' ∧ ab_Fr sn_W h0 h' ∧ tk_T (mi_f h0 13953) (mi_a h0 110) a (mi_f h' 14001) (mx_l h' 14004).toInt (mi_f h' 14002) (mi_f h' 14000)
variable {h : sm_H} {zc a : Int}
/-- the place is known, the character is not of a word, no letter, no digit, no mark of a keyword or sign -/
theorem sx336 (hS0 : ab_Sh sx_sk h0) (hS : ab_Sh sx_sk h) (hF : ab_Fr sn_W h0 h) (hp : tx_end tx_blk (mi_f h0 13953) (mi_a h0 110) a (mi_f h 14002)) (hpn : mi_f h 14002 < mi_f h0 13953) (hc : zc = mi_a h0 110 (mi_f h 14002).toNat) (oc : mi_in zc) (hat : mi_f h 14000 = mi_f h 14002 + 1) (hv : (mx_l h 14004).toInt = 0) (n1 : ¬ tx_low zc) (n2 : ¬ tx_cap zc) (n3 : ¬ tx_dig zc) (n4 : zc ≠ 34) (n5 : zc ≠ 39) : me_E (d + 2) 177 336 [some (.inr (.inr 109)), some (.inl zc), none, none] [] h (sx_Q h0 a) := by
  have yes : tx_own zc → me_E (d + 2) 177 395 [some (.inr (.inr 109)), some (.inl zc), none, none] [.inl 1] h (sx_Q h0 a) := fun ho => by
    refine mt_scL hS oc ⟨by decide, by decide⟩ (fun x => absurd x (by decide)) (fun _ h1 g1 g2 g3 => ?_)
    have e0 : mi_f h1 14000 = mi_f h 14000 := me_f (c := 14000) g3 hS rfl rfl
    have e2 : mi_f h1 14002 = mi_f h 14002 := me_f (c := 14002) g3 hS rfl rfl
    have e4 : mx_l h1 14004 = mx_l h 14004 := me_l (c := 14004) g3 hS rfl rfl
    refine ⟨rfl, g1, hF.trans (g3.wide (fun c hc => ab_swr_ok (by decide) hc)), ?_⟩
    rw [e0, e2, e4, g2]
    refine ⟨hp, Or.inr ⟨hpn, Or.inr (Or.inr (Or.inr (Or.inr (Or.inr (Or.inl ⟨?_, ?_, hv, hat⟩)))))⟩⟩
    · rw [← hc]; exact ho
    · exact hc
  refine mt_scK hS oc ?_ ?_ ?_ ?_ ?_ ?_ ?_ ?_ ?_ ?_
  · intro c h1 g1 g2; have e := me_nil g2; subst e; exact yes (by unfold tx_own; omega)
  · intro _ c h1 g1 g2; have e := me_nil g2; subst e; exact yes (by unfold tx_own; omega)
  · intro _ _ c h1 g1 g2; have e := me_nil g2; subst e; exact yes (by unfold tx_own; omega)
  · intro _ _ _ c h1 g1 g2; have e := me_nil g2; subst e; exact yes (by unfold tx_own; omega)
  · intro _ _ _ _ c h1 g1 g2; have e := me_nil g2; subst e; exact yes (by unfold tx_own; omega)
  · intro _ _ _ _ _ c h1 g1 g2; have e := me_nil g2; subst e; exact yes (by unfold tx_own; omega)
  · intro _ _ _ _ _ _ c h1 g1 g2; have e := me_nil g2; subst e; exact yes (by unfold tx_own; omega)
  · intro _ _ _ _ _ _ _ c h1 g1 g2; have e := me_nil g2; subst e; exact yes (by unfold tx_own; omega)
  · intro c1 c2 c3 c4 c5 c6 c7 c8 c9 h1 g1 g2
    have e := me_nil g2
    subst e
    refine mt_scL hS oc ⟨by decide, by decide⟩ (fun _ h2 g1 g2 g3 => ?_) (fun x => absurd rfl x)
    have e2 : mi_f h2 14002 = mi_f h1 14002 := me_f (c := 14002) g3 hS rfl rfl
    refine ⟨rfl, g1, hF.trans (g3.wide (fun c hc => ab_swr_ok (by decide) hc)), ?_⟩
    rw [e2, g2]
    refine ⟨hp, Or.inr ⟨hpn, Or.inr (Or.inr (Or.inr (Or.inr (Or.inr (Or.inr ?_)))))⟩⟩
    rw [← hc]
    exact ⟨n1, n2, n3, n4, n5, by unfold tx_own; omega, rfl⟩
  · intro _ _ _ _ _ _ _ _ c h1 g1 g2; have e := me_nil g2; subst e; exact yes (by unfold tx_own; omega)
theorem sx244 (hS0 : ab_Sh sx_sk h0) (hS : ab_Sh sx_sk h) (hF : ab_Fr sn_W h0 h) (hp : tx_end tx_blk (mi_f h0 13953) (mi_a h0 110) a (mi_f h 14002)) (hpn : mi_f h 14002 < mi_f h0 13953) (hc : zc = mi_a h0 110 (mi_f h 14002).toNat) (oc : mi_in zc) (hat : mi_f h 14000 = mi_f h 14002 + 1) (hv : (mx_l h 14004).toInt = 0) (n1 : ¬ tx_low zc) (n2 : ¬ tx_cap zc) (n3 : ¬ tx_dig zc) (n4 : zc ≠ 34) : me_E (d + 2) 177 244 [some (.inr (.inr 109)), some (.inl zc), none, none] [] h (sx_Q h0 a) := by
  have b2 := me_fb (c := 14002) hS rfl
  have bn := me_fb (c := 13953) hS0 rfl
  have en : mi_f h 13953 = mi_f h0 13953 := me_f (c := 13953) hF hS0 rfl rfl
  have ea : ∀ i, mi_a h 110 i = mi_a h0 110 i := fun i => me_a (k := 110) hF hS0 rfl rfl
  /- the sign's character s; q: whether it is one -/
  have fin : ∀ {zs zz : Int}, mi_in zs → -65536 ≤ zs → zs ≤ 1073741823 → (zz = 0 ∨ zz = 1) → zc = 39 → (zz = 1 → mi_f h 14002 + 1 < mi_f h0 13953 ∧ tx_sg (mi_a h0 110 (mi_f h 14002 + 1).toNat) ∧ zs = mi_a h0 110 (mi_f h 14002 + 1).toNat) → (zz = 0 → ¬ (mi_f h 14002 + 1 < mi_f h0 13953 ∧ tx_sg (mi_a h0 110 (mi_f h 14002 + 1).toNat))) → me_E (d + 2) 177 302 [some (.inr (.inr 109)), some (.inl zc), some (.inl zs), none] [.inl zz] h (sx_Q h0 a) := fun {zs zz} os s0 s1 oz c39 y1 y0 => by
    have es : ((Int32.ofInt zs).toInt64).toInt = zs := by rw [Int32.toInt_toInt64, mi_ti os]
    refine mt_scJ hS oc os ⟨by omega, by omega⟩ ?_ ?_
    · intro b c
      rw [es]
      refine ⟨⟨⟨s0, s1⟩, ⟨by omega, by omega⟩, ⟨by omega, by omega⟩⟩, fun h1 g1 g2 g3 g4 g5 => ?_⟩
      have e2 : mi_f h1 14002 = mi_f h 14002 := me_f (c := 14002) g5 hS rfl rfl
      refine ⟨rfl, g1, hF.trans (g5.wide (fun c hc => ab_swr_ok (by decide) hc)), ?_⟩
      rw [e2, g3]
      exact ⟨hp, Or.inr ⟨hpn, Or.inr (Or.inr (Or.inr (Or.inr (Or.inl ⟨by rw [← hc]; exact c39, Or.inr ⟨y0 c, rfl⟩⟩))))⟩⟩
    · intro b c
      rw [es]
      obtain ⟨w1, w2, w3⟩ := y1 (by omega)
      refine ⟨⟨⟨s0, s1⟩, ⟨by omega, by omega⟩, ⟨by omega, by omega⟩⟩, fun h1 g1 g2 g3 g4 g5 => ?_⟩
      have e2 : mi_f h1 14002 = mi_f h 14002 := me_f (c := 14002) g5 hS rfl rfl
      refine ⟨rfl, g1, hF.trans (g5.wide (fun c hc => ab_swr_ok (by decide) hc)), ?_⟩
      rw [e2, g3, g4, es, g2, hat]
      exact ⟨hp, Or.inr ⟨hpn, Or.inr (Or.inr (Or.inr (Or.inr (Or.inl ⟨by rw [← hc]; exact c39, Or.inl ⟨w1, w2, rfl, w3, by omega⟩⟩))))⟩⟩
  have mid : ∀ {zs : Int}, mi_in zs → -65536 ≤ zs → zs ≤ 1073741823 → zc = 39 → ((mi_f h 14002 + 1 < mi_f h0 13953 ∧ zs = mi_a h0 110 (mi_f h 14002 + 1).toNat) ∨ (mi_f h0 13953 ≤ mi_f h 14002 + 1 ∧ zs = 0)) → me_E (d + 2) 177 259 [some (.inr (.inr 109)), some (.inl zc), some (.inl zs), none] [] h (sx_Q h0 a) := fun {zs} os s0 s1 c39 hz => by
    have no : ¬ tx_sg zs → me_E (d + 2) 177 302 [some (.inr (.inr 109)), some (.inl zc), some (.inl zs), none] [.inl 0] h (sx_Q h0 a) := fun hn => fin os s0 s1 (Or.inl rfl) c39 (fun x => absurd x (by decide)) (fun _ x => by
      rcases hz with ⟨z1, z2⟩ | ⟨z1, z2⟩
      · rw [z2] at hn
        exact hn x.2
      · omega)
    have yes : tx_sg zs → me_E (d + 2) 177 302 [some (.inr (.inr 109)), some (.inl zc), some (.inl zs), none] [.inl 1] h (sx_Q h0 a) := fun hn => fin os s0 s1 (Or.inr rfl) c39 (fun _ => by
      rcases hz with ⟨z1, z2⟩ | ⟨z1, z2⟩
      · exact ⟨z1, by rw [← z2]; exact hn, z2⟩
      · have := hn.1
        omega) (fun x => absurd x (by decide))
    unfold tx_sg tx_low tx_dig tx_cap at no yes
    refine mt_scI hS oc os ?_ ?_ ?_ ?_ ?_ ?_ ?_ ?_ ?_ ?_ ?_ ?_ ?_ ?_ ?_ ?_ ?_
    · intro c1 h1 g1 g2; have e := me_nil g2; subst e; exact no (by omega)
    · intro c1 c2 h1 g1 g2; have e := me_nil g2; subst e; exact no (by omega)
    · intro c1 c2 c3 c4 c5 h1 g1 g2; have e := me_nil g2; subst e; exact yes (by omega)
    · intro c1 c2 c3 c4 c5 c6; exfalso; omega
    · intro c1 c2 c3 c4 c5 c6; exfalso; omega
    · intro c1 c2 c3 c4 c5 c6 h1 g1 g2; have e := me_nil g2; subst e; exact yes (by omega)
    · intro c1 c2 c3 c4 c5 c6 c7 h1 g1 g2; have e := me_nil g2; subst e; exact no (by omega)
    · intro c1 c2 c3 c4 c5 c6 c7 h1 g1 g2; have e := me_nil g2; subst e; exact yes (by omega)
    · intro c1 c2 c3 c4 c5 h1 g1 g2; have e := me_nil g2; subst e; exact no (by omega)
    · intro c1 c2 c3 c4 c5 c6; exfalso; omega
    · intro c1 c2 c3 c4 c5 c6 c7; exfalso; omega
    · intro c1 c2 c3 c4 c5 c6 c7; exfalso; omega
    · intro c1 c2 c3 c4 c5 c6 c7; exfalso; omega
    · intro c1 c2 c3 c4 c5 c6 c7 c8; exfalso; omega
    · intro c1 c2 c3 c4 c5 c6 c7 c8 h1 g1 g2; have e := me_nil g2; subst e; exact yes (by omega)
    · intro c1 c2 c3 c4 c5 c6; exfalso; omega
    · intro c1 c2 c3 c4 h1 g1 g2; have e := me_nil g2; subst e; exact no (by omega)
  refine mt_scH hS oc ?_ ?_ ?_
  · intro c h1 g1 g2
    have e := me_nil g2
    subst e
    exact sx336 hS0 hS hF hp hpn hc oc hat hv n1 n2 n3 n4 c
  · intro b1 b3 c c2 h1 g1 g2
    have e := me_nil g2
    subst e
    exact mid ⟨by decide, by decide⟩ (by decide) (by decide) c (Or.inr ⟨by omega, rfl⟩)
  · intro b1 b3 c c2
    have bc := me_ab (k := 110) (i := (mi_f h 14000).toNat) hS rfl (by decide) (by omega)
    refine ⟨⟨by omega, by omega⟩, fun h1 g1 g2 => ?_⟩
    have e := me_nil g2
    subst e
    refine mid ⟨by omega, by omega⟩ (by omega) (by omega) c (Or.inl ⟨by omega, ?_⟩)
    rw [ea, hat]
end SCX
/-! the reference's scan, exactly: from its begin -/
section SCY
variable {d : Nat} {h0 h : sm_H} {zc a : Int}
theorem sx170 (hS0 : ab_Sh sx_sk h0) (hS : ab_Sh sx_sk h) (hF : ab_Fr sn_W h0 h) (hp : tx_end tx_blk (mi_f h0 13953) (mi_a h0 110) a (mi_f h 14002)) (hpn : mi_f h 14002 < mi_f h0 13953) (hc : zc = mi_a h0 110 (mi_f h 14002).toNat) (oc : mi_in zc) (hat : mi_f h 14000 = mi_f h 14002 + 1) (hv : (mx_l h 14004).toInt = 0) (n1 : ¬ tx_low zc) (n2 : ¬ tx_cap zc) (n3 : ¬ tx_dig zc) : me_E (d + 2) 177 170 [some (.inr (.inr 109)), some (.inl zc), none, none] [] h (sx_Q h0 a) := by
  have b2 := me_fb (c := 14002) hS rfl
  have bn := me_fb (c := 13953) hS0 rfl
  have en : mi_f h 13953 = mi_f h0 13953 := me_f (c := 13953) hF hS0 rfl rfl
  have ea : mi_a h 110 = mi_a h0 110 := funext (fun i => me_a (k := 110) hF hS0 rfl rfl)
  refine mt_scF hS oc ?_ ?_
  · intro c h1 g1 g2
    have e := me_nil g2
    subst e
    exact sx244 hS0 hS hF hp hpn hc oc hat hv n1 n2 n3 c
  · intro c34 h1 g1 g2
    have e := me_nil g2
    subst e
    refine ⟨_, me_lettersx (d := d) (zb := mi_f h1 14000) hS (by omega) (by omega), fun w h2 ow hq => ?_⟩
    obtain ⟨q, rfl, q1, q2, q3, q4⟩ := hq
    rw [en, ea, hat] at q1
    rw [ea, hat] at q4
    have qn := tx_end_n q1 (by omega)
    have q0 := q1.1
    have oq : mi_in q := ⟨by omega, by omega⟩
    have e0 : mi_f h2 14000 = mi_f h1 14002 + 1 := (me_f (c := 14000) q3 hS rfl rfl).trans hat
    have e2 : mi_f h2 14002 = mi_f h1 14002 := me_f (c := 14002) q3 hS rfl rfl
    have en2 : mi_f h2 13953 = mi_f h0 13953 := (me_f (c := 13953) q3 hS rfl rfl).trans en
    have ea2 : ∀ i, mi_a h2 110 i = mi_a h0 110 i := fun i => (me_a (k := 110) q3 hS rfl rfl).trans (by rw [ea])
    have F2 : ab_Fr sn_W h0 h2 := hF.trans (q3.wide (fun c hc => ab_swr_ok (by decide) hc))
    have no : ¬ (mi_f h1 14002 + 1 < q ∧ q - (mi_f h1 14002 + 1) < 6 ∧ q < mi_f h0 13953 ∧ mi_a h0 110 q.toNat = 34) → me_E (d + 2) 177 219 [some (.inr (.inr 109)), some (.inl zc), some (.inl q), none] [.inl 0] h2 (sx_Q h0 a) := fun hn => by
      refine mt_scG2 q2 oc oq ⟨by decide, by decide⟩ ?_ (fun x => absurd rfl x)
      intro _
      refine ⟨⟨⟨by omega, by omega⟩, ⟨by omega, by omega⟩⟩, fun h3 g1 g2 g3 g4 => ?_⟩
      have e22 : mi_f h3 14002 = mi_f h1 14002 := (me_f (c := 14002) g4 q2 rfl rfl).trans e2
      refine ⟨rfl, g1, F2.trans (g4.wide (fun c hc => ab_swr_ok (by decide) hc)), ?_⟩
      rw [e22, g3]
      exact ⟨hp, Or.inr ⟨hpn, Or.inr (Or.inr (Or.inr (Or.inl ⟨by rw [← hc]; exact c34, q, q1, Or.inr ⟨hn, rfl⟩⟩)))⟩⟩
    refine mt_scG q2 oc oq ?_ ?_ ?_ ?_ ?_
    · intro b c h3 g1 g2
      have e := me_nil g2
      subst e
      exact no (fun x => by omega)
    · intro b c c2
      refine ⟨⟨by omega, by omega⟩, fun h3 g1 g2 => ?_⟩
      have e := me_nil g2
      subst e
      exact no (fun x => by omega)
    · intro b b3 c c2 c3
      refine ⟨⟨by omega, by omega⟩, fun h3 g1 g2 => ?_⟩
      have e := me_nil g2
      subst e
      exact no (fun x => by omega)
    · intro b b3 c c2 c3 c4
      refine ⟨⟨⟨by omega, by omega⟩, ⟨by omega, by omega⟩⟩, fun h3 g1 g2 => ?_⟩
      have e := me_nil g2
      subst e
      refine no (fun x => ?_)
      rw [ea2] at c4
      exact c4 x.2.2.2
    · intro b b3 c c2 c3 c4
      refine ⟨⟨⟨by omega, by omega⟩, ⟨by omega, by omega⟩⟩, fun h3 g1 g2 => ?_⟩
      have e := me_nil g2
      subst e
      rw [ea2] at c4
      refine mt_scG2 q2 oc oq ⟨by decide, by decide⟩ (fun x => absurd x (by decide)) ?_
      intro _
      refine ⟨⟨⟨by omega, by omega⟩, ⟨by omega, by omega⟩⟩, fun h4 g1 g2 g3 g4 => ?_⟩
      have e22 : mi_f h4 14002 = mi_f h1 14002 := (me_f (c := 14002) g4 q2 rfl rfl).trans e2
      have e4 : mx_l h4 14004 = mx_l h3 14004 := me_l (c := 14004) g4 q2 rfl rfl
      refine ⟨rfl, g1, F2.trans (g4.wide (fun c hc => ab_swr_ok (by decide) hc)), ?_⟩
      rw [e22, g3, e4, g2]
      refine ⟨hp, Or.inr ⟨hpn, Or.inr (Or.inr (Or.inr (Or.inl ⟨by rw [← hc]; exact c34, q, q1, Or.inl ⟨by omega, by omega, by omega, c4, rfl, ?_, rfl⟩⟩)))⟩⟩
      rcases q4 with ⟨u1, u2⟩ | ⟨u1, u2⟩
      · omega
      · exact u2
theorem sx117 (hS0 : ab_Sh sx_sk h0) (hS : ab_Sh sx_sk h) (hF : ab_Fr sn_W h0 h) (hp : tx_end tx_blk (mi_f h0 13953) (mi_a h0 110) a (mi_f h 14002)) (hpn : mi_f h 14002 < mi_f h0 13953) (hc : zc = mi_a h0 110 (mi_f h 14002).toNat) (oc : mi_in zc) (hat : mi_f h 14000 = mi_f h 14002 + 1) (hv : (mx_l h 14004).toInt = 0) (n1 : ¬ tx_low zc) : me_E (d + 2) 177 117 [some (.inr (.inr 109)), some (.inl zc), none, none] [] h (sx_Q h0 a) := by
  have es : ∀ {z : Int}, mi_in z → ((Int32.ofInt z).toInt64).toInt = z := fun {z} oz => by rw [Int32.toInt_toInt64, mi_ti oz]
  have dig : tx_dig zc → ∀ h1, ab_Sh sx_sk h1 → mi_f h1 14001 = (5 : Int) → mx_l h1 14004 = (Int32.ofInt (zc - ((48 : Int)))).toInt64 → ab_Fr [(14001, 14002), (14004, 14005)] h h1 → sx_Q h0 a none h1 := fun hd h1 g1 g2 g3 g4 => by
    have hd' := hd
    unfold tx_dig at hd'
    have e0 : mi_f h1 14000 = mi_f h 14000 := me_f (c := 14000) g4 hS rfl rfl
    have e2 : mi_f h1 14002 = mi_f h 14002 := me_f (c := 14002) g4 hS rfl rfl
    refine ⟨rfl, g1, hF.trans (g4.wide (fun c hc => ab_swr_ok (by decide) hc)), ?_⟩
    rw [e0, e2, g2, g3, es ⟨by omega, by omega⟩, hat]
    exact ⟨hp, Or.inr ⟨hpn, Or.inr (Or.inr (Or.inl ⟨by rw [← hc]; exact hd, rfl, by rw [hc], rfl⟩))⟩⟩
  have on : ¬ tx_cap zc → ¬ tx_dig zc → ∀ h1, ab_Sh sx_sk h1 → ab_Fr [] h h1 → me_E (d + 2) 177 170 [some (.inr (.inr 109)), some (.inl zc), none, none] [] h1 (sx_Q h0 a) := fun n2 n3 h1 g1 g2 => by
    have e := me_nil g2
    subst e
    exact sx170 hS0 hS hF hp hpn hc oc hat hv n1 n2 n3
  refine mt_scE hS oc ?_ ?_ ?_ ?_ ?_ ?_ ?_
  · intro c1 c2
    exact on (fun x => by have := x.1; omega) (fun x => by have := x.1; omega)
  · intro c1 c2 c3
    exact on (fun x => by have := x.1; omega) (fun x => by have := x.2; omega)
  · intro c1 c2 c3
    refine ⟨⟨⟨by omega, by omega⟩, ?_⟩, dig ⟨c2, c3⟩⟩
    rw [es ⟨by omega, by omega⟩]
    omega
  · intro c1 c2 c3
    exfalso; omega
  · intro c1 c2 c3 c4
    exact on (fun x => by have := x.2; omega) (fun x => by have := x.2; omega)
  · intro c1 c2 c3 c4
    exfalso; omega
  · intro c1 c2
    refine ⟨⟨⟨by omega, by omega⟩, ?_⟩, fun h1 g1 g2 g3 g4 => ?_⟩
    · rw [es ⟨by omega, by omega⟩]
      omega
    · have e0 : mi_f h1 14000 = mi_f h 14000 := me_f (c := 14000) g4 hS rfl rfl
      have e2 : mi_f h1 14002 = mi_f h 14002 := me_f (c := 14002) g4 hS rfl rfl
      refine ⟨rfl, g1, hF.trans (g4.wide (fun c hc => ab_swr_ok (by decide) hc)), ?_⟩
      rw [e0, e2, g2, g3, es ⟨by omega, by omega⟩, hat]
      exact ⟨hp, Or.inr ⟨hpn, Or.inr (Or.inl ⟨by rw [← hc]; exact ⟨c1, c2⟩, rfl, by rw [hc], rfl⟩)⟩⟩
theorem sx71 (hS0 : ab_Sh sx_sk h0) (hS : ab_Sh sx_sk h) (hF : ab_Fr sn_W h0 h) (hp : tx_end tx_blk (mi_f h0 13953) (mi_a h0 110) a (mi_f h 14002)) (hpn : mi_f h 14002 ≤ mi_f h0 13953) (hc : mi_f h 14002 < mi_f h0 13953 → zc = mi_a h0 110 (mi_f h 14002).toNat) (oc : mi_in zc) (hat : mi_f h 14000 = mi_f h 14002 + 1) (hv : (mx_l h 14004).toInt = 0) : me_E (d + 2) 177 71 [some (.inr (.inr 109)), some (.inl zc), none, none] [] h (sx_Q h0 a) := by
  have b2 := me_fb (c := 14002) hS rfl
  have en : mi_f h 13953 = mi_f h0 13953 := me_f (c := 13953) hF hS0 rfl rfl
  have ea : mi_a h 110 = mi_a h0 110 := funext (fun i => me_a (k := 110) hF hS0 rfl rfl)
  refine mt_scC hS oc ?_ ?_ ?_ ?_
  · intro b b3 c c2 h1 g1 g2
    have e := me_nil g2
    subst e
    exact sx117 hS0 hS hF hp (by omega) (hc (by omega)) oc hat hv (fun x => by have := x.1; omega)
  · intro b b3 c c2 c3 h1 g1 g2
    have e := me_nil g2
    subst e
    exact sx117 hS0 hS hF hp (by omega) (hc (by omega)) oc hat hv (fun x => by have := x.2; omega)
  · intro b b3 c c2 c3 h1 g1 g2
    have e := me_nil g2
    subst e
    have hl : mi_f h1 14002 < mi_f h0 13953 := by omega
    refine ⟨_, me_lettersx (d := d) (zb := mi_f h1 14002) hS (by omega) (by omega), fun w h2 ow hq => ?_⟩
    obtain ⟨q, rfl, q1, q2, q3, q4⟩ := hq
    rw [en, ea] at q1
    rw [ea] at q4
    have qn := tx_end_n q1 (by omega)
    have q0 := q1.1
    refine mt_scD (zz := q) q2 oc ⟨by omega, by omega⟩ ⟨⟨by omega, by omega⟩, fun h3 g1 g2 g3 g4 => ?_⟩
    have e2 : mi_f h3 14002 = mi_f h1 14002 := (me_f (c := 14002) g4 q2 rfl rfl).trans (me_f (c := 14002) q3 hS rfl rfl)
    have e4 : mx_l h3 14004 = mx_l h2 14004 := me_l (c := 14004) g4 q2 rfl rfl
    refine ⟨rfl, g1, (hF.trans (q3.wide (fun c hc => ab_swr_ok (by decide) hc))).trans (g4.wide (fun c hc => ab_swr_ok (by decide) hc)), ?_⟩
    rw [e2, e4, g2, g3]
    exact ⟨hp, Or.inr ⟨hl, Or.inl ⟨by rw [← hc hl]; exact ⟨c2, c3⟩, rfl, q1, q4⟩⟩⟩
  · intro b b3 c h1 g1 g2 g3
    have e2 : mi_f h1 14002 = mi_f h 14002 := me_f (c := 14002) g3 hS rfl rfl
    refine ⟨rfl, g1, hF.trans (g3.wide (fun c hc => ab_swr_ok (by decide) hc)), ?_⟩
    rw [e2, g2]
    exact ⟨hp, Or.inl ⟨by omega, rfl⟩⟩
theorem sx39 (hS0 : ab_Sh sx_sk h0) (hS : ab_Sh sx_sk h) (hF : ab_Fr sn_W h0 h) (hp : tx_end tx_blk (mi_f h0 13953) (mi_a h0 110) a (mi_f h 14000)) (hpn : mi_f h 14000 ≤ mi_f h0 13953) : me_E (d + 2) 177 39 [some (.inr (.inr 109)), none, none, none] [] h (sx_Q h0 a) := by
  have bn := me_fb (c := 13953) hS0 rfl
  have en : mi_f h 13953 = mi_f h0 13953 := me_f (c := 13953) hF hS0 rfl rfl
  have ea : mi_a h 110 = mi_a h0 110 := funext (fun i => me_a (k := 110) hF hS0 rfl rfl)
  refine mt_scB hS ?_ ?_
  · intro b b2 c
    refine ⟨⟨⟨by omega, by omega⟩, ⟨by omega, by omega⟩, ⟨by omega, by omega⟩⟩, fun h1 g1 g2 g3 g4 g5 => ?_⟩
    exact sx71 hS0 g1 (hF.trans (g5.wide (fun c hc => ab_swr_ok (by decide) hc))) (by rw [g3]; exact hp) (by omega) (fun x => by omega) ⟨by decide, by decide⟩ (by omega) (by rw [g4]; rfl)
  · intro b b2 c
    have bc := me_ab (k := 110) (i := (mi_f h 14000).toNat) hS rfl (by decide) (by omega)
    refine ⟨⟨⟨by omega, by omega⟩, ⟨by omega, by omega⟩, ⟨by omega, by omega⟩, ⟨by omega, by omega⟩⟩, fun h1 g1 g2 g3 g4 g5 => ?_⟩
    exact sx71 hS0 g1 (hF.trans (g5.wide (fun c hc => ab_swr_ok (by decide) hc))) (by rw [g3]; exact hp) (by omega) (fun _ => by rw [g3, ea]) ⟨by omega, by omega⟩ (by omega) (by rw [g4]; rfl)
theorem sx0 (hS0 : ab_Sh sx_sk h0) : ∀ (N : Nat) (h : sm_H), 240 - mi_f h 14000 < N → ab_Sh sx_sk h → ab_Fr sn_W h0 h → a ≤ mi_f h 14000 → mi_f h 14000 ≤ mi_f h0 13953 → (∀ j, a ≤ j → j < mi_f h 14000 → j < mi_f h0 13953 ∧ tx_blk (mi_a h0 110 j.toNat)) → me_E (d + 2) 177 0 [some (.inr (.inr 109)), none, none, none] [] h (sx_Q h0 a) := by
  have bn := me_fb (c := 13953) hS0 rfl
  intro N
  induction N with
  | zero => intro h hN hS hF h0 h1; exfalso; omega
  | succ N ih =>
    intro h hN hS hF ha0 ha1 hb
    have en : mi_f h 13953 = mi_f h0 13953 := me_f (c := 13953) hF hS0 rfl rfl
    have ea : mi_a h 110 = mi_a h0 110 := funext (fun i => me_a (k := 110) hF hS0 rfl rfl)
    have on : tx_blk (mi_a h 110 (mi_f h 14000).toNat) → mi_f h 14000 < mi_f h 13953 → ∀ h1, ab_Sh sx_sk h1 → mi_f h1 14000 = mi_f h 14000 + 1 → ab_Fr [(14000, 14001)] h h1 → me_E (d + 2) 177 0 [some (.inr (.inr 109)), none, none, none] [] h1 (sx_Q h0 a) := fun hk hl h1 g1 g2 g3 => by
      refine ih h1 (by omega) g1 (hF.trans (g3.wide (fun c hc => ab_swr_ok (by decide) hc))) (by omega) (by omega) (fun j a1 a2 => ?_)
      by_cases e : j = mi_f h 14000
      · rw [e]
        rw [ea] at hk
        exact ⟨by omega, hk⟩
      · exact hb j a1 (by omega)
    have fin : ¬ (mi_f h 14000 < mi_f h0 13953 ∧ tx_blk (mi_a h0 110 (mi_f h 14000).toNat)) → ∀ h1, ab_Sh sx_sk h1 → ab_Fr [] h h1 → me_E (d + 2) 177 39 [some (.inr (.inr 109)), none, none, none] [] h1 (sx_Q h0 a) := fun hn h1 g1 g2 => by
      have e := me_nil g2
      subst e
      exact sx39 hS0 hS hF ⟨ha0, hb, hn⟩ ha1
    refine mt_scA hS ?_ ?_ ?_ ?_
    · intro b b2 c
      exact fin (fun x => by omega)
    · intro b b2 c c2
      refine ⟨⟨⟨by omega, by omega⟩, ⟨by omega, by omega⟩, ⟨by omega, by omega⟩⟩, on (Or.inl c2) c⟩
    · intro b b2 c c2 c3
      refine ⟨⟨by omega, by omega⟩, fin (fun x => ?_)⟩
      rw [ea] at c2 c3
      exact x.2.elim c2 c3
    · intro b b2 c c2 c3
      refine ⟨⟨⟨by omega, by omega⟩, ⟨by omega, by omega⟩, ⟨by omega, by omega⟩⟩, on (Or.inr c3) c⟩
/-- scan tells the token at the place where it stands -/
theorem me_scanx (hS : ab_Sh sx_sk h) (ha : mi_f h 14000 ≤ mi_f h 13953) : me_E (d + 2) 177 0 [some (.inr (.inr 109)), none, none, none] [] h (sx_Q h (mi_f h 14000)) := by
  have bn := me_fb (c := 13953) hS rfl
  exact sx0 hS 242 h (by have := me_fb (c := 14000) hS rfl; omega) hS ab_Fr.refl (Int.le_refl _) ha (fun j a1 a2 => by omega)
end SCY
/-! THE MACHINE OVER INTEGERS, for the class's methods too: lengths of rows, characters, constants, calls on any of the cells -/
/-- steps that mi_step does not know; what is read lies in the cells h behind O -/
def mj_step (sk : ab_K) (q : sm_I) (pc : Nat) (ls : mi_L) (st : List mi_V) (h : sm_H) (O : List mi_U) (b : Nat) : Option mi_R := match q with
  | (i, _, rs) => match i with
    | .arraylength => match st with
      | .inr (.inr a) :: r => match sk[a]? with
        | some (some (.inl (t, n, _, _, _))) => if (sm_ty t).isSome ∧ n < 2147483648 then some (pc + 1, ls, .inl (n : Int) :: r, O, []) else none
        | _ => none
      | _ => none
    | .baload => match st with
      | .inl x :: .inr (.inr a) :: r => match sk[a]? with
        | some (some (.inl (t, n, _, _, _))) => if t = 4 then some (pc + 1, ls, .inl (mi_ra O a x.toNat h) :: r, O, [0 ≤ x ∧ x < (n : Int)]) else none
        | _ => none
      | _ => none
    | .i2b => match st with
      | .inl x :: r => some (pc + 1, ls, .inl x :: r, O, [-128 ≤ x ∧ x ≤ 127])
      | _ => none
    | .getfield _ => match st, rs with
      | .inr (.inr a) :: r, k :: z :: cs => if z ≠ 0 ∧ a < sm_C then (match sk[a]? with
        | some (some (.inr (ci, fl))) => if ci ∈ cs ∧ k < fl.length then (match fl[k]? with
          | some (t, lo, hi) => if t = 2 then some (pc + 3, ls, .inr (.inr lo.toNat) :: r, O, []) else if t = 0 ∧ lo = hi then some (pc + 3, ls, .inl lo :: r, O, []) else none
          | none => none) else none
        | _ => none) else none
      | _, _ => none
    | .caload => mi_ald 2 sk pc ls st h O
    | .ineg => match st with
      | .inl x :: r => some (pc + 1, ls, .inl (-x) :: r, O, [mi_in (-x)])
      | _ => none
    | .ldc _ => match rs with
      | [1, n] => some (pc + 2, ls, .inr (.inr n) :: st, O, [])
      | _ => none
    | .invokestatic _ => match rs with
      | [_, k] => match st with
        | .inl y :: .inl x :: r => if (r.map mi_cat).sum ≤ 8 then (if k = 0 then (if b = 1 then some (pc + 3, ls, .inl y :: r, O, [x < y]) else some (pc + 3, ls, .inl x :: r, O, [y ≤ x])) else (if b = 1 then some (pc + 3, ls, .inl y :: r, O, [y < x]) else some (pc + 3, ls, .inl x :: r, O, [x ≤ y]))) else none
        | _ => none
      | _ => none
    | _ => none
/-- a step at the machine itself -/
def mj_good (sk : ab_K) (q : sm_I) (pc : Nat) (ls : mi_L) (st : List mi_V) (h : sm_H) (O : List mi_U) (R : mi_R) : Prop :=
  sm_step q pc (mi_cl ls) (st.map mi_c) (mi_ap O h) = some (.inl (R.1, mi_cl R.2.1, R.2.2.1.map mi_c, mi_ap R.2.2.2.1 h)) ∧ R.2.2.2.1 = O ∧ mi_okL R.2.1 ∧ mi_okS R.2.2.1
section MJS
variable {sk : ab_K} {h : sm_H} {pc b : Nat} {ls : mi_L} {st : List mi_V} {O : List mi_U}
theorem mj_ak {a t n : Nat} {lo hi : Int} (hk : mo_ak sk a = some (t, n, lo, hi)) : sk[a]? = some (some (.inl (t, n, lo, hi, []))) ∧ sm_C ≤ a := by
  unfold mo_ak at hk
  split at hk
  · next t1 n1 lo1 hi1 ex1 he =>
    split at hk
    · next hc =>
      cases hk
      rw [hc.2] at he
      exact ⟨he, hc.1⟩
    · cases hk
  · cases hk
theorem mj_step_ok {q : sm_I} {R : mi_R} (hs : mj_step sk q pc ls st h O b = some R) (hP : mx_Sp sk h) (hO : mx_oO sk (O.map mi_cU)) (hS : ab_Sh sk (mi_ap O h)) (hl : mi_okL ls) (hst : mi_okS st) (hU : mi_okO O) (ho : ∀ p ∈ R.2.2.2.2, p) : mj_good sk q pc ls st h O R := by
  obtain ⟨i, len, rs⟩ := q
  unfold mj_step at hs
  dsimp only at hs
  split at hs
  · split at hs
    · next a r =>
      split at hs
      · next t n lo hi ex k1 =>
        split at hs
        · next hc =>
          cases hs
          have hh : ∃ c, (mi_ap O h)[a]? = some (.inl (t, n, c)) := by
            obtain ⟨c, e, -⟩ := hS _ _ k1
            exact ⟨c, e⟩
          obtain ⟨c, hh⟩ := hh
          refine ⟨?_, rfl, hl, mi_okS_cons ⟨by omega, by omega⟩ (mi_okS_tl hst)⟩
          simp only [sm_step, List.map_cons, mi_c]
          rw [hh]
          simp only
          rw [if_pos hc.1]
          rfl
        · cases hs
      · cases hs
    · cases hs
  · split at hs
    · next x a r =>
      split at hs
      · next t n lo hi ex k1 =>
        split at hs
        · next ht =>
          cases hs
          subst ht
          obtain ⟨f, hh, -⟩ := mx_arr hS k1 (by decide)
          have hx := mi_okS_hd hst
          have ob : 0 ≤ x ∧ x < (n : Int) := ho _ List.mem_cons_self
          have ef : f x.toNat = Int32.ofInt (mi_ra O a x.toNat h) := by
            have e1 : mx_a (mi_ap O h) a x.toNat = f x.toNat := by
              unfold mx_a
              rw [hh]
            rw [← e1]
            unfold mi_ap
            rw [mx_a_ap hP _ hO, mi_ra_eq]
          refine ⟨?_, rfl, hl, mi_okS_cons (mi_ra_in a x.toNat O hU) (mi_okS_tl (mi_okS_tl hst))⟩
          have hix : sm_ix (Int32.ofInt x) n = true := by
            unfold sm_ix
            rw [decide_eq_true_eq]
            have e1 := mi_ti hx
            have e2 := mi_tn hx
            refine ⟨fun c => ?_, by rw [e2]; omega⟩
            have := Int32.lt_iff_toInt_lt.mp c
            rw [e1] at this
            have e0 : (0 : Int32).toInt = 0 := rfl
            omega
          simp only [sm_step, sm_ald, List.map_cons, mi_c]
          rw [hh]
          simp only
          rw [if_neg (fun c => absurd c.1 (by decide)), if_pos ⟨trivial, hix, Or.inr (Or.inr trivial)⟩, mi_tn hx, ef]
          rfl
        · cases hs
      · cases hs
    · cases hs
  · split at hs
    · next x r =>
      cases hs
      have ob : -128 ≤ x ∧ x ≤ 127 := ho _ List.mem_cons_self
      have hx := mi_okS_hd hst
      refine ⟨?_, rfl, hl, mi_okS_cons hx (mi_okS_tl hst)⟩
      simp only [sm_step, List.map_cons, mi_c]
      have e : (Int32.ofInt x).toInt8.toInt32 = Int32.ofInt x := by
        apply Int32.toInt_inj.mp
        rw [Int8.toInt_toInt32, Int32.toInt_toInt8, mi_ti hx]
        exact Int.bmod_eq_of_le (by omega) (by omega)
      rw [e]
      rfl
    · cases hs
  · split at hs
    · next a r k z cs =>
      split at hs
      · next hz =>
        split at hs
        · next ci fl hk =>
          split at hs
          · next hci =>
            split at hs
            · next t lo hi hf =>
              obtain ⟨fs, hh, hlen, hfv⟩ := mx_obj hS hk
              have hfs : ∃ v, fs[k]? = some v := by
                have : k < fs.length := by omega
                exact ⟨_, List.getElem?_eq_getElem this⟩
              obtain ⟨v, hv⟩ := hfs
              have fv := hfv k _ v hf hv
              split at hs
              · next ht =>
                cases hs
                subst ht
                have fv : v = .ref lo.toNat := fv
                refine ⟨?_, rfl, hl, mi_okS_cons trivial (mi_okS_tl hst)⟩
                simp only [sm_step, sm_getf, List.map_cons, mi_c]
                rw [hh]
                simp only
                rw [if_pos ⟨hci.1, Or.inr ⟨hz.1, hz.2⟩⟩, hv, fv]
                rfl
              · split at hs
                · next ht =>
                  cases hs
                  obtain ⟨rfl, rfl⟩ := ht
                  obtain ⟨x, ex, x0, x1⟩ := fv
                  have ex2 : x = Int32.ofInt lo := by
                    apply Int32.toInt_inj.mp
                    have x0 : lo ≤ x.toInt := x0
                    have x1 : x.toInt ≤ lo := x1
                    have e3 : x.toInt = lo := by omega
                    have : mi_in lo := by rw [← e3]; exact mi_inT x
                    rw [mi_ti this, e3]
                  have hin : mi_in lo := by
                    have x0 : lo ≤ x.toInt := x0
                    have x1 : x.toInt ≤ lo := x1
                    have e3 : x.toInt = lo := by omega
                    rw [← e3]
                    exact mi_inT x
                  refine ⟨?_, rfl, hl, mi_okS_cons hin (mi_okS_tl hst)⟩
                  simp only [sm_step, sm_getf, List.map_cons, mi_c]
                  rw [hh]
                  simp only
                  rw [if_pos ⟨hci.1, Or.inr ⟨hz.1, hz.2⟩⟩, hv, ex, ex2]
                  rfl
                · cases hs
            · cases hs
          · cases hs
        · cases hs
      · cases hs
    · cases hs
  · unfold mi_ald at hs
    split at hs
    · next x a r =>
      split at hs
      · next t n lo hi hk =>
        split at hs
        · next ht =>
          cases hs
          subst ht
          obtain ⟨k1, k2⟩ := mj_ak hk
          obtain ⟨f, hh, -⟩ := mx_arr hS k1 (by decide)
          have hx := mi_okS_hd hst
          have ob : 0 ≤ x ∧ x < (n : Int) := ho _ List.mem_cons_self
          have ef : f x.toNat = Int32.ofInt (mi_ra O a x.toNat h) := by
            have e1 : mx_a (mi_ap O h) a x.toNat = f x.toNat := by
              unfold mx_a
              rw [hh]
            rw [← e1]
            unfold mi_ap
            rw [mx_a_ap hP _ hO, mi_ra_eq]
          refine ⟨?_, rfl, hl, mi_okS_cons (mi_ra_in a x.toNat O hU) (mi_okS_tl (mi_okS_tl hst))⟩
          simp only [sm_step, sm_ald, List.map_cons, mi_c]
          rw [hh]
          simp only
          have hix : sm_ix (Int32.ofInt x) n = true := by
            unfold sm_ix
            rw [decide_eq_true_eq]
            have e1 := mi_ti hx
            have e2 := mi_tn hx
            refine ⟨fun c => ?_, by rw [e2]; omega⟩
            have := Int32.lt_iff_toInt_lt.mp c
            rw [e1] at this
            have e0 : (0 : Int32).toInt = 0 := rfl
            omega
          rw [if_pos ⟨trivial, hix, Or.inl k2⟩, mi_tn hx, ef]
          rfl
        · cases hs
      · cases hs
    · cases hs
  · split at hs
    · next x r =>
      cases hs
      have ob : mi_in (-x) := ho _ List.mem_cons_self
      refine ⟨?_, rfl, hl, mi_okS_cons ob (mi_okS_tl hst)⟩
      simp only [sm_step, List.map_cons, mi_c]
      rw [Int32.ofInt_neg]
      rfl
    · cases hs
  · split at hs
    · next n =>
      cases hs
      exact ⟨rfl, rfl, hl, mi_okS_cons trivial hst⟩
    · cases hs
  · split at hs
    · next k0 k =>
      split at hs
      · next y x r =>
        split at hs
        · next hc =>
          have hy := mi_okS_hd hst
          have hx := mi_okS_hd (mi_okS_tl hst)
          have hr := mi_okS_tl (mi_okS_tl hst)
          have hcc : (((r.map mi_c).map fun v => v.category).sum ≤ 8) := by rw [mi_cats_eq]; exact hc
          have lt : (Int32.ofInt x < Int32.ofInt y) ↔ x < y := by rw [Int32.lt_iff_toInt_lt, mi_ti hx, mi_ti hy]
          have gt : (Int32.ofInt y < Int32.ofInt x) ↔ y < x := by rw [Int32.lt_iff_toInt_lt, mi_ti hx, mi_ti hy]
          split at hs
          · next hk =>
            subst hk
            split at hs
            · cases hs
              have ob : x < y := ho _ List.mem_cons_self
              refine ⟨?_, rfl, hl, mi_okS_cons hy hr⟩
              simp only [sm_step, List.map_cons, mi_c]
              rw [if_pos hcc, if_pos trivial, if_pos (lt.mpr ob)]
              rfl
            · cases hs
              have ob : y ≤ x := ho _ List.mem_cons_self
              refine ⟨?_, rfl, hl, mi_okS_cons hx hr⟩
              simp only [sm_step, List.map_cons, mi_c]
              rw [if_pos hcc, if_pos trivial, if_neg (fun c => by have := lt.mp c; omega)]
              rfl
          · next hk =>
            split at hs
            · cases hs
              have ob : y < x := ho _ List.mem_cons_self
              refine ⟨?_, rfl, hl, mi_okS_cons hy hr⟩
              simp only [sm_step, List.map_cons, mi_c]
              rw [if_pos hcc, if_neg hk, if_pos (gt.mpr ob)]
              rfl
            · cases hs
              have ob : x ≤ y := ho _ List.mem_cons_self
              refine ⟨?_, rfl, hl, mi_okS_cons hx hr⟩
              simp only [sm_step, List.map_cons, mi_c]
              rw [if_pos hcc, if_neg hk, if_neg (fun c => by have := gt.mp c; omega)]
              rfl
        · cases hs
      · cases hs
    · cases hs
  · cases hs
end MJS
/-- a call on any cell of a class -/
def mj_call (sk : ab_K) (q : sm_I) (st : List mi_V) : Option (Nat × List mi_V × List mi_V) := match q.1, q.2.2 with
  | .invokestatic _, [_, m, n] => match mi_args n st with
    | some (as, r) => some (m, as, r)
    | none => none
  | .invokevirtual _, _ :: n :: ps => match mi_args (n + 1) st with
    | some (.inr (.inr a) :: as, r) => match sk[a]? with
      | some (some (.inr (ci', _))) => match sm_pick ci' ps with
        | some m => some (m, .inr (.inr a) :: as, r)
        | none => none
      | _ => none
    | _ => none
  | _, _ => none
def mj_ret (q : sm_I) (k : Nat) (st : List mi_V) : Option (Option mi_V × List Prop) := match mi_ret q k st with
  | some R => some R
  | none => match q.1, st with
    | .ireturn, [.inl z] => if k = 5 then some (some (.inl z), [0 ≤ z ∧ z ≤ 65535]) else none
    | _, _ => none
def mj_br (q : sm_I) (b : Nat) : Bool := match q.1, q.2.2 with
  | .invokestatic _, [_, _] => true
  | _, _ => mi_br q b
def mj_path (T : mi_T) (sk : ab_K) (h : sm_H) : Nat → List Nat → mi_S → Option (mi_S × List Prop)
  | 0, _, S => some (S, [])
  | n + 1, bs, (d, m, pc, ls, st, O, F) => match mi_find T m with
    | none => none
    | some (_, k, tab) => match tab[pc]? with
      | some (some q) => match mi_step sk q pc ls st h O (bs.headD 0) with
        | some (pc', ls', st', O', ob) => mi_pre ob (mj_path T sk h n (if mj_br q (bs.headD 0) then bs.tail else bs) (d, m, pc', ls', st', O', F))
        | none => match mj_step sk q pc ls st h O (bs.headD 0) with
          | some (pc', ls', st', O', ob) => mi_pre ob (mj_path T sk h n (if mj_br q (bs.headD 0) then bs.tail else bs) (d, m, pc', ls', st', O', F))
          | none => match mj_call sk q st with
            | some (m', as, r) => match d, mi_find T m' with
              | d' + 1, some (nl, _, _) => if (mi_slots as).length ≤ nl ∧ (r.map mi_cat).sum ≤ 8 then mj_path T sk h n bs (d', m', 0, mi_entry nl as, [], O, (m, pc, ls, r) :: F) else none
              | _, _ => none
            | none => match mj_ret q k st, F with
              | some (rv, ob), f :: F' => mi_pre ob (mj_path T sk h n bs (d + 1, f.1, f.2.1 + 3, f.2.2.1, mi_back rv f.2.2.2, O, F'))
              | _, _ => none
      | _ => none
section MJQ
variable {sk : ab_K} {h : sm_H} {P : Nat → Option sm_M} {QT : Nat → sm_H → Prop} {Q : Option Value → sm_H → Prop} {T : mi_T}
theorem mj_call_ok {q : sm_I} {st as r : List mi_V} {m pc : Nat} {ls : sm_L} {H : sm_H} (hS : ab_Sh sk H) (hc : mj_call sk q st = some (m, as, r)) : sm_step q pc ls (st.map mi_c) H = some (.inr (.inr (m, as.map mi_c, r.map mi_c))) ∧ (mi_okS st → mi_okS as ∧ mi_okS r) := by
  obtain ⟨i, len, rs⟩ := q
  unfold mj_call at hc
  split at hc
  · next idx k m1 n hi hrs =>
    dsimp only at hi hrs
    subst hi
    subst hrs
    split at hc
    · next as1 r1 ha =>
      cases hc
      obtain ⟨e1, e2⟩ := mi_args_inv ha
      refine ⟨?_, e2⟩
      simp only [sm_step, sm_callS]
      rw [e1]
      rfl
    · cases hc
  · next idx k n ps hi hrs =>
    dsimp only at hi hrs
    subst hi
    subst hrs
    split at hc
    · next a as1 r1 ha =>
      split at hc
      · next ci' fl hk =>
        split at hc
        · next m1 hpk =>
          cases hc
          obtain ⟨e1, e2⟩ := mi_args_inv ha
          refine ⟨?_, e2⟩
          obtain ⟨fs, ho, -, -⟩ := mx_obj hS hk
          simp only [sm_step, sm_callV]
          rw [e1]
          simp only [List.map_cons, mi_c]
          rw [ho]
          simp only [hpk]
          rfl
        · cases hc
      · cases hc
    · cases hc
  · cases hc
theorem mj_ret_ok {q : sm_I} {k pc : Nat} {st : List mi_V} {rv : Option mi_V} {ob : List Prop} {ls : sm_L} {H : sm_H} (hr : mj_ret q k st = some (rv, ob)) (hst : mi_okS st) (ho : ∀ p ∈ ob, p) : sm_step q pc ls (st.map mi_c) H = some (.inr (.inl (rv.map mi_c))) ∧ sm_okret k (rv.map mi_c) = true ∧ ∀ v, rv = some v → mi_ok v := by
  unfold mj_ret at hr
  split at hr
  · next R hR =>
    cases hr
    exact mi_ret_ok hR hst ho
  · obtain ⟨i, len, rs⟩ := q
    split at hr
    · next z hi hn =>
      have hi : i = Instr.ireturn := hi
      subst hi
      split at hr
      · next hk =>
        cases hr
        subst hk
        have h1 : 0 ≤ z ∧ z ≤ 65535 := ho _ List.mem_cons_self
        have hz : mi_in z := ⟨by omega, by omega⟩
        refine ⟨rfl, ?_, fun v hv => by cases hv; exact hz⟩
        show decide ((0 : Int32) ≤ Int32.ofInt z ∧ Int32.ofInt z ≤ 65535) = true
        rw [decide_eq_true_eq]
        have e0 : (0 : Int32).toInt = 0 := rfl
        have e1 : (65535 : Int32).toInt = 65535 := rfl
        refine ⟨Int32.le_iff_toInt_le.mpr ?_, Int32.le_iff_toInt_le.mpr ?_⟩
        · rw [mi_ti hz]; omega
        · rw [mi_ti hz]; omega
      · cases hr
    · cases hr
set_option maxHeartbeats 1000000 in
theorem mj_path_ok (hT : ∀ e ∈ T, P e.1 = some e.2) (hP : mx_Sp sk h) : ∀ (n : Nat) (bs : List Nat) (S R : mi_S) (ob : List Prop), mj_path T sk h n bs S = some (R, ob) → mi_okA sk h S → (∀ p ∈ ob, p) → (mi_okA sk h R → mi_K P QT Q h R) → mi_K P QT Q h S := by
  intro n
  induction n with
  | zero =>
    intro bs S R ob hp hA ho hk
    simp only [mj_path] at hp
    cases hp
    exact hk hA
  | succ n ih =>
    intro bs S R ob hp hA ho hk
    obtain ⟨d, m, pc, ls, st, O, F⟩ := S
    obtain ⟨hS, hO, hl, hst, hU, hF⟩ := hA
    simp only [mj_path] at hp
    split at hp
    · cases hp
    · next nl k tab hfm =>
      have hM := hT _ (mi_find_mem T hfm)
      split at hp
      · next q hq =>
        split at hp
        · next pc' ls' st' O' ob1 hs =>
          obtain ⟨ob2, hp2, rfl⟩ := mi_pre_inv hp
          obtain ⟨⟨ob', hm, hob'⟩, g1, g2, g3⟩ := mi_step_ok hs hl hst hU (fun p hp => ho p (List.mem_append_left _ hp))
          obtain ⟨e1, e2, e3⟩ := mo_step_ok hm hP hO hS hob'
          exact ab_EndsK.step (M := (nl, k, tab)) hM hq e1 (ih _ _ _ _ hp2 ⟨e2, e3, g1, g2, g3, hF⟩ (fun p hp => ho p (List.mem_append_right _ hp)) hk)
        · split at hp
          · next pc' ls' st' O' ob1 hs =>
            obtain ⟨ob2, hp2, rfl⟩ := mi_pre_inv hp
            obtain ⟨e1, e2, g1, g2⟩ := mj_step_ok hs hP hO hS hl hst hU (fun p hp => ho p (List.mem_append_left _ hp))
            have e2 : O' = O := e2
            subst e2
            exact ab_EndsK.step (M := (nl, k, tab)) hM hq e1 (ih _ _ _ _ hp2 ⟨hS, hO, g1, g2, hU, hF⟩ (fun p hp => ho p (List.mem_append_right _ hp)) hk)
          · split at hp
            · next m' as r hc =>
              obtain ⟨e1, e2⟩ := mj_call_ok (pc := pc) (ls := mi_cl ls) hS hc
              obtain ⟨k1, k2⟩ := e2 hst
              split at hp
              · next d' nl' k' tab' hfm' =>
                split at hp
                · next hcc =>
                  have hM' := hT _ (mi_find_mem T hfm')
                  refine ab_EndsK.inl (M := (nl, k, tab)) (M' := (nl', k', tab')) hM hq e1 hM' (by rw [mi_slots_len]; exact hcc.1) (by rw [mi_cats_eq]; exact hcc.2) ?_
                  have := ih _ _ _ _ hp ⟨hS, hO, mi_entry_ok k1, (fun v hv => by cases hv), hU, fun f hf => by
                    rcases List.mem_cons.mp hf with rfl | hf
                    · exact ⟨hl, k2⟩
                    · exact hF f hf⟩ ho hk
                  rw [mi_entry_eq]
                  exact this
                · cases hp
              · cases hp
            · split at hp
              · next rv ob1 f F' hr =>
                obtain ⟨ob2, hp2, rfl⟩ := mi_pre_inv hp
                obtain ⟨e1, e2, e3⟩ := mj_ret_ok (pc := pc) (ls := mi_cl ls) (H := mi_ap O h) hr hst (fun p hp => ho p (List.mem_append_left _ hp))
                have hf := hF f List.mem_cons_self
                refine ab_EndsK.ret (c := mi_cF f) (M := (nl, k, tab)) hM hq e1 e2 ?_
                have := ih _ _ _ _ hp2 ⟨hS, hO, hf.1, mi_back_ok e3 hf.2, hU, fun g hg => hF g (List.mem_cons_of_mem _ hg)⟩ (fun p hp => ho p (List.mem_append_right _ hp)) hk
                show ab_EndsK P QT Q (F'.map mi_cF) (d + 1) f.1 (f.2.1 + 3) (mi_cl f.2.2.1) (sm_back (rv.map mi_c) (f.2.2.2.map mi_c)) (mi_ap O h)
                rw [mi_back_eq]
                exact this
              · cases hp
      · cases hp
end MJQ
section MJB
variable {d m pc : Nat} {ls : mi_L} {st : List mi_V} {h : sm_H} {Q Q' : Option mi_V → sm_H → Prop} {M M' : sm_M} {q : sm_I}
theorem mf_seg {T : mi_T} {n d' m' pc' : Nat} {bs : List Nat} {ls' : mi_L} {st' : List mi_V} {O : List mi_U} {ob : List Prop} (hp : mj_path T sx_sk h n bs (d, m, pc, ls, st, [], []) = some ((d', m', pc', ls', st', O, []), ob)) (hT : ∀ e ∈ T, sc_P e.1 = some e.2) (hS : ab_Sh sx_sk h) (hl : mi_okL ls) (hst : mi_okS st) (ho : ∀ p ∈ ob, p) (k : ∀ h', me_W O h h' → mi_okL ls' → mi_okS st' → me_E d' m' pc' ls' st' h' Q) : me_E d m pc ls st h Q := by
  have hP := mx_Sh_Sp hS
  have := mj_path_ok (P := sc_P) (QT := fun _ _ => False) (Q := fun v h' => ∃ w, v = w.map mi_c ∧ (∀ x, w = some x → mi_ok x) ∧ Q w h') hT hP n bs _ _ ob hp ⟨hS, (fun u hu => by cases hu), hl, hst, (fun u hu => by cases hu), (fun f hf => by cases hf)⟩ ho (fun hA => by
    obtain ⟨a1, a2, a3, a4, a5, -⟩ := hA
    exact Or.inl (k _ (me_W_ap hP a1 a2 a5) a3 a4))
  rcases this with this | ⟨n, x, h', -, hf⟩
  · exact this
  · exact hf.elim
theorem mf_call {m' : Nat} {as r : List mi_V} {Q1 : Option mi_V → sm_H → Prop} (hM : sc_P m = some M) (hq : M.2.2[pc]? = some (some q)) (hc : mj_call sx_sk q st = some (m', as, r)) (hM' : sc_P m' = some M') (hsl : (mi_slots as).length ≤ M'.1) (hcat : (r.map mi_cat).sum ≤ 8) (hS : ab_Sh sx_sk h) (k : me_E d m' 0 (mi_entry M'.1 as) [] h Q1) (kk : ∀ w h', (∀ x, w = some x → mi_ok x) → Q1 w h' → me_E (d + 1) m (pc + 3) ls (mi_back w r) h' Q) : me_E (d + 1) m pc ls st h Q := by
  obtain ⟨e1, -⟩ := mj_call_ok (pc := pc) (ls := mi_cl ls) hS hc
  refine ab_Ends.call hM hq e1 hM' (by rw [mi_slots_len]; exact hsl) (by rw [mi_cats_eq]; exact hcat) ?_
  rw [mi_entry_eq]
  refine ab_Ends.imp k (fun v h' hw => ?_)
  obtain ⟨w, rfl, hw, hQ⟩ := hw
  rw [mi_back_eq]
  exact kk w h' hw hQ
theorem mf_ret {rv : Option mi_V} {ob : List Prop} (hM : sc_P m = some M) (hq : M.2.2[pc]? = some (some q)) (hr : mj_ret q M.2.1 st = some (rv, ob)) (hst : mi_okS st) (ho : ∀ p ∈ ob, p) (hQ : Q rv h) : me_E d m pc ls st h Q := by
  obtain ⟨e1, e2, e3⟩ := mj_ret_ok (pc := pc) (ls := mi_cl ls) (H := h) hr hst ho
  exact ab_Ends.ret hM hq e1 e2 ⟨rv, rfl, e3, hQ⟩
end MJB
