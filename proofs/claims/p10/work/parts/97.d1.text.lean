/-! the class's Text, exactly: the description -/
def cx_at (h : sm_H) (k : Int) : Int := if 0 ≤ k ∧ k < mi_f h 6657 then mi_a h 53 k.toNat else 32
section CTX
variable {d : Nat} {h : sm_H} {zf zt zk : Int}
theorem cx_in (hS : ab_Sh sx_sk h) (k : Int) : 0 ≤ cx_at h k ∧ cx_at h k ≤ 65535 := by
  have bn := me_fb (c := 6657) hS rfl
  unfold cx_at
  by_cases c : 0 ≤ k ∧ k < mi_f h 6657
  · rw [if_pos c]
    exact me_ab (k := 53) (i := k.toNat) hS rfl (by decide) (by omega)
  · rw [if_neg c]
    omega
theorem me_cat (hS : ab_Sh sx_sk h) (ok : mi_in zk) : me_E d 20 0 [some (.inr (.inr 52)), some (.inl zk)] [] h (fun w h' => h' = h ∧ w = some (.inl (cx_at h zk))) := by
  have fin : ∀ {z : Int}, z = cx_at h zk → ∀ h1, ab_Sh sx_sk h1 → ab_Fr [] h h1 → (h1 = h ∧ (some (.inl z) : Option mi_V) = some (.inl (cx_at h zk))) := fun {z} e h1 g1 g2 => ⟨me_nil g2, by rw [e]⟩
  refine mt_ctA hS ok ?_ ?_ ?_ ?_
  · intro c
    exact fin (by unfold cx_at; rw [if_neg (by omega)])
  · intro b c c2
    exact fin (by unfold cx_at; rw [if_neg (by omega)])
  · intro b c c2 c3
    exfalso; omega
  · intro b c c2 c3
    refine ⟨⟨⟨by omega, by omega⟩, me_ab (k := 53) (i := zk.toNat) hS rfl (by decide) (by omega)⟩, fin ?_⟩
    unfold cx_at
    rw [if_pos ⟨c, c2⟩]
theorem cb2 (hS : ab_Sh sx_sk h) (of : mi_in zf) (f0 : 0 ≤ zf) : ∀ (N : Nat) (zk : Int), 1000 - zk < N → zf ≤ zk → zk ≤ 1000 → (∀ j, zf ≤ j → j < zk → j < mi_f h 6657 ∧ tx_blk (mi_a h 53 j.toNat)) → me_E (d + 1) 19 2 [some (.inr (.inr 52)), some (.inl zf), some (.inl zk)] [] h (fun w h' => h' = h ∧ ∃ e, w = some (.inl e) ∧ tx_end tx_blk (mi_f h 6657) (mi_a h 53) zf e) := by
  have bn := me_fb (c := 6657) hS rfl
  intro N
  induction N with
  | zero => intro zk hN k0 k1; exfalso; omega
  | succ N ih =>
    intro zk hN k0 k1 hl
    have ok : mi_in zk := ⟨by omega, by omega⟩
    refine mt_cbB hS of ok ?_ ?_
    · intro b c h1 g1 g2
      exact ⟨me_nil g2, zk, rfl, k0, hl, fun x => by omega⟩
    · intro b c h1 g1 g2
      have e := me_nil g2
      subst e
      refine ⟨_, me_cat (d := d) hS ok, fun w h2 ow hq => ?_⟩
      obtain ⟨rfl, rfl⟩ := hq
      have ea : cx_at h2 zk = mi_a h2 53 zk.toNat := by unfold cx_at; rw [if_pos ⟨by omega, c⟩]
      have ob := cx_in hS zk
      have on : tx_blk (mi_a h2 53 zk.toNat) → me_E (d + 1) 19 2 [some (.inr (.inr 52)), some (.inl zf), some (.inl (zk + 1))] [] h2 (fun w h' => h' = h2 ∧ ∃ e, w = some (.inl e) ∧ tx_end tx_blk (mi_f h2 6657) (mi_a h2 53) zf e) := fun hb => by
        refine ih (zk + 1) (by omega) (by omega) (by omega) (fun j a1 a2 => ?_)
        by_cases ej : j = zk
        · subst ej
          exact ⟨c, hb⟩
        · exact hl j a1 (by omega)
      refine mt_cbC (zz := cx_at h2 zk) hS of ok ⟨by omega, by omega⟩ ?_ ?_ ?_
      · intro c2
        rw [ea] at c2
        refine ⟨⟨by omega, by omega⟩, fun h3 g1 g2 => ?_⟩
        have e := me_nil g2
        subst e
        exact on (Or.inl c2)
      · intro c2 c3 h3 g1 g2
        rw [ea] at c2 c3
        exact ⟨me_nil g2, zk, rfl, k0, hl, fun x => x.2.elim c2 c3⟩
      · intro c2 c3
        rw [ea] at c3
        refine ⟨⟨by omega, by omega⟩, fun h3 g1 g2 => ?_⟩
        have e := me_nil g2
        subst e
        exact on (Or.inr c3)
theorem me_cblanks (hS : ab_Sh sx_sk h) (f0 : 0 ≤ zf) (f1 : zf ≤ 300) : me_E (d + 1) 19 0 [some (.inr (.inr 52)), some (.inl zf), none] [] h (fun w h' => h' = h ∧ ∃ e, w = some (.inl e) ∧ tx_end tx_blk (mi_f h 6657) (mi_a h 53) zf e) := by
  have of : mi_in zf := ⟨by omega, by omega⟩
  refine mt_cbA hS of (fun h1 g1 g2 => ?_)
  have e := me_nil g2
  subst e
  exact cb2 hS of f0 1002 zf (by omega) (by omega) (by omega) (fun j a1 a2 => by omega)
theorem cl2 (hS : ab_Sh sx_sk h) (of : mi_in zf) (f0 : 0 ≤ zf) : ∀ (N : Nat) (zk : Int), 1000 - zk < N → zf ≤ zk → zk ≤ 1000 → (∀ j, zf ≤ j → j < zk → j < mi_f h 6657 ∧ tx_low (mi_a h 53 j.toNat)) → me_E (d + 1) 25 2 [some (.inr (.inr 52)), some (.inl zf), some (.inl zk)] [] h (fun w h' => h' = h ∧ ∃ e, w = some (.inl e) ∧ tx_end tx_low (mi_f h 6657) (mi_a h 53) zf e) := by
  have bn := me_fb (c := 6657) hS rfl
  intro N
  induction N with
  | zero => intro zk hN k0 k1; exfalso; omega
  | succ N ih =>
    intro zk hN k0 k1 hl
    have ok : mi_in zk := ⟨by omega, by omega⟩
    refine mt_clB hS of ok ?_ ?_
    · intro b c h1 g1 g2
      exact ⟨me_nil g2, zk, rfl, k0, hl, fun x => by omega⟩
    · intro b c h1 g1 g2
      have e := me_nil g2
      subst e
      refine ⟨_, me_cat (d := d) hS ok, fun w h2 ow hq => ?_⟩
      obtain ⟨rfl, rfl⟩ := hq
      have ea : cx_at h2 zk = mi_a h2 53 zk.toNat := by unfold cx_at; rw [if_pos ⟨by omega, c⟩]
      have ob := cx_in hS zk
      refine mt_clC (zz := cx_at h2 zk) hS of ok ⟨by omega, by omega⟩ ?_ ?_ ?_
      · intro c2 h3 g1 g2
        rw [ea] at c2
        exact ⟨me_nil g2, zk, rfl, k0, hl, fun x => by have := x.2.1; omega⟩
      · intro c2 c3 h3 g1 g2
        rw [ea] at c3
        exact ⟨me_nil g2, zk, rfl, k0, hl, fun x => by have := x.2.2; omega⟩
      · intro c2 c3
        rw [ea] at c2 c3
        refine ⟨⟨by omega, by omega⟩, fun h3 g1 g2 => ?_⟩
        have e := me_nil g2
        subst e
        refine ih (zk + 1) (by omega) (by omega) (by omega) (fun j a1 a2 => ?_)
        by_cases ej : j = zk
        · subst ej
          exact ⟨c, c2, c3⟩
        · exact hl j a1 (by omega)
theorem me_cletters (hS : ab_Sh sx_sk h) (f0 : 0 ≤ zf) (f1 : zf ≤ 300) : me_E (d + 1) 25 0 [some (.inr (.inr 52)), some (.inl zf), none] [] h (fun w h' => h' = h ∧ ∃ e, w = some (.inl e) ∧ tx_end tx_low (mi_f h 6657) (mi_a h 53) zf e) := by
  have of : mi_in zf := ⟨by omega, by omega⟩
  refine mt_clA hS of (fun h1 g1 g2 => ?_)
  have e := me_nil g2
  subst e
  exact cl2 hS of f0 1002 zf (by omega) (by omega) (by omega) (fun j a1 a2 => by omega)
/-- one letter more in front, in an int -/
theorem tx_pack32 {V X : Int} (v0 : 0 ≤ V) (v1 : V < 1048576) (x0 : 0 ≤ X) (x1 : X < 32) : (Int32.ofInt ((Int32.ofInt V <<< (Int32.ofInt ((5 : Int)) &&& 31)).toInt) ||| Int32.ofInt X).toInt = X + 32 * V := by
  rw [Int32.ofInt_toInt]
  have toN : ∀ {z : Int}, 0 ≤ z → z < 1073741824 → ((Int32.ofInt z).toBitVec.toNat : Int) = z := fun {z} h0 h1 => by
    have e2 : (Int32.ofInt z).toBitVec.toInt = z := mi_ti (z := z) ⟨by omega, by omega⟩
    have e3 := BitVec.toInt_eq_toNat_cond (Int32.ofInt z).toBitVec
    have e4 := (Int32.ofInt z).toBitVec.isLt
    split at e3 <;> omega
  have nX := toN x0 (by omega)
  have nV := toN v0 (by omega)
  generalize hA : Int32.ofInt X = A at nX
  generalize hB : Int32.ofInt V = B at nV
  have e5 : (Int32.ofInt ((5 : Int)) &&& 31).toBitVec.smod 32 = BitVec.ofNat 32 5 := by decide
  have main : ((B <<< (Int32.ofInt ((5 : Int)) &&& 31)) ||| A).toBitVec.toNat = B.toBitVec.toNat * 32 + A.toBitVec.toNat := by
    rw [Int32.toBitVec_or, BitVec.toNat_or, Int32.toBitVec_shiftLeft, e5]
    have e : (B.toBitVec <<< BitVec.ofNat 32 5) = B.toBitVec <<< 5 := by
      rw [BitVec.shiftLeft_eq', BitVec.toNat_ofNat]
    rw [e, BitVec.toNat_shiftLeft, Nat.mod_eq_of_lt (by rw [Nat.shiftLeft_eq]; omega), ← Nat.shiftLeft_add_eq_or_of_lt (by omega), Nat.shiftLeft_eq]
  show ((B <<< (Int32.ofInt ((5 : Int)) &&& 31)) ||| A).toBitVec.toInt = _
  rw [BitVec.toInt_eq_toNat_of_lt (by rw [main]; omega), main]
  omega
theorem cc7 (hS : ab_Sh sx_sk h) (f0 : 0 ≤ zf) (ft : zf ≤ zt) (t1 : zt ≤ mi_f h 6657) (t5 : zt - zf ≤ 5) (hl : ∀ j, zf ≤ j → j < zt → tx_low (mi_a h 53 j.toNat)) : ∀ (N : Nat) (zk : Int), zk - zf + 1 < N → zf - 1 ≤ zk → zk < zt → me_E (d + 1) 34 7 [some (.inr (.inr 52)), some (.inl zf), some (.inl zt), some (.inl (tx_code (mi_a h 53) (zk + 1) (zt - 1 - zk).toNat)), some (.inl zk)] [] h (fun w h' => h' = h ∧ w = some (.inl (tx_code (mi_a h 53) zf (zt - zf).toNat))) := by
  have bn := me_fb (c := 6657) hS rfl
  intro N
  induction N with
  | zero => intro zk hN k0; exfalso; omega
  | succ N ih =>
    intro zk hN k0 k1
    have of : mi_in zf := ⟨by omega, by omega⟩
    have ot : mi_in zt := ⟨by omega, by omega⟩
    have ok : mi_in zk := ⟨by omega, by omega⟩
    have cb := tx_code_b (c := mi_a h 53) (zt - 1 - zk).toNat (zk + 1) (fun j a1 a2 => hl j (by omega) (by omega))
    have p5 : (32 : Int) ^ (zt - 1 - zk).toNat ≤ 32 ^ 5 := by
      have : (32 : Nat) ^ (zt - 1 - zk).toNat ≤ 32 ^ 5 := Nat.pow_le_pow_right (by decide) (by omega)
      exact_mod_cast this
    have e32 : (32 : Int) ^ 5 = 33554432 := by decide
    have ov : mi_in (tx_code (mi_a h 53) (zk + 1) (zt - 1 - zk).toNat) := ⟨by omega, by omega⟩
    refine mt_ccB hS of ot ov ok ?_ ?_
    · intro c h1 g1 g2
      have ek : zk = zf - 1 := by omega
      subst ek
      refine ⟨me_nil g2, ?_⟩
      rw [show zf - 1 + 1 = zf by omega, show zt - 1 - (zf - 1) = zt - zf by omega]
    · intro c h1 g1 g2
      have e := me_nil g2
      subst e
      refine ⟨_, me_cat (d := d) hS ok, fun w h2 ow hq => ?_⟩
      obtain ⟨rfl, rfl⟩ := hq
      have ea : cx_at h2 zk = mi_a h2 53 zk.toNat := by unfold cx_at; rw [if_pos ⟨by omega, by omega⟩]
      obtain ⟨x0, x1⟩ := hl zk c k1
      have p4 : (32 : Int) ^ (zt - 1 - zk).toNat ≤ 32 ^ 4 := by
        have : (32 : Nat) ^ (zt - 1 - zk).toNat ≤ 32 ^ 4 := Nat.pow_le_pow_right (by decide) (by omega)
        exact_mod_cast this
      have e4 : (32 : Int) ^ 4 = 1048576 := by decide
      have pk := tx_pack32 (V := tx_code (mi_a h2 53) (zk + 1) (zt - 1 - zk).toNat) (X := mi_a h2 53 zk.toNat - 97 + 1) cb.1 (by omega) (by omega) (by omega)
      refine mt_ccC (zz := cx_at h2 zk) (zy := (Int32.ofInt (tx_code (mi_a h2 53) (zk + 1) (zt - 1 - zk).toNat) <<< (Int32.ofInt ((5 : Int)) &&& 31)).toInt) hS of ot ov ok (by rw [ea]; exact ⟨by omega, by omega⟩) (mi_inT _) ?_
      rw [ea, pk]
      refine ⟨⟨⟨by omega, by omega⟩, ⟨by omega, by omega⟩, ⟨by omega, by omega⟩⟩, fun h3 g1 g2 => ?_⟩
      have e := me_nil g2
      subst e
      have em : (zt - 1 - zk).toNat + 1 = (zt - 1 - (zk + -1)).toNat := by omega
      have ec : mi_a h3 53 zk.toNat - 97 + 1 + 32 * tx_code (mi_a h3 53) (zk + 1) (zt - 1 - zk).toNat = tx_code (mi_a h3 53) (zk + -1 + 1) (zt - 1 - (zk + -1)).toNat := by
        rw [← em, show zk + -1 + 1 = zk by omega]
        show _ = (mi_a h3 53 zk.toNat - 96) + 32 * tx_code (mi_a h3 53) (zk + 1) (zt - 1 - zk).toNat
        omega
      rw [ec]
      exact ih (zk + -1) (by omega) (by omega) (by omega)
theorem me_ccode (hS : ab_Sh sx_sk h) (f0 : 0 ≤ zf) (ft : zf ≤ zt) (t1 : zt ≤ mi_f h 6657) (t5 : zt - zf ≤ 5) (hl : ∀ j, zf ≤ j → j < zt → tx_low (mi_a h 53 j.toNat)) : me_E (d + 1) 34 0 [some (.inr (.inr 52)), some (.inl zf), some (.inl zt), none, none] [] h (fun w h' => h' = h ∧ w = some (.inl (tx_code (mi_a h 53) zf (zt - zf).toNat))) := by
  have bn := me_fb (c := 6657) hS rfl
  refine mt_ccA hS ⟨by omega, by omega⟩ ⟨by omega, by omega⟩ ⟨⟨by omega, by omega⟩, fun h1 g1 g2 => ?_⟩
  have e := me_nil g2
  subst e
  have := cc7 (d := d) hS f0 ft t1 t5 hl 8 (zt - 1) (by omega) (by omega) (by omega)
  rw [show zt - 1 - (zt - 1) = 0 by omega] at this
  exact this
end CTX
