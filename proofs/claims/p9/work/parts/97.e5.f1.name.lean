/-! the class's names, and what a leaf gives -/
section CW2
theorem cn_n {z : Int} (h0 : 0 ≤ z) (h1 : z < 2147483648) : ((Int32.ofInt z).toBitVec.toNat : Int) = z := by
  have e2 : (Int32.ofInt z).toBitVec.toInt = z := mi_ti (z := z) ⟨by omega, by omega⟩
  have e3 := BitVec.toInt_eq_toNat_cond (Int32.ofInt z).toBitVec
  have e4 := (Int32.ofInt z).toBitVec.isLt
  split at e3 <;> omega
theorem cn_or {zv y : Int32} {v a k : Nat} (hv : zv.toBitVec.toNat = v) (hk : v < 2 ^ k) (hy : y.toBitVec.toNat = a * 2 ^ k) (hb : v + a * 2 ^ k < 2147483648) : (zv ||| y).toInt = ((v + a * 2 ^ k : Nat) : Int) := by
  have e : (zv ||| y).toBitVec.toNat = v + a * 2 ^ k := by rw [Int32.toBitVec_or, BitVec.toNat_or, hv, hy, Nat.or_comm, ← Nat.shiftLeft_eq, ← Nat.shiftLeft_add_eq_or_of_lt hk, Nat.shiftLeft_eq, Nat.add_comm]
  show (zv ||| y).toBitVec.toInt = _
  rw [BitVec.toInt_eq_toNat_of_lt (by rw [e]; omega), e]
variable {h : sm_H} {s : gm_S} {d : Nat} {f : Int → Int} {it : Int → Prop} {g : wk_g} {Y : wk_Y} {kw : Int → Bool}
def cn_Q (h0 : sm_H) (s : gm_S) (v : Int) (w : Option mi_V) (h' : sm_H) : Prop := ab_Sh sx_sk h' ∧ ab_Fr [(13702, 13703)] h0 h' ∧ gq_R h' s ∧ w = some (.inl v)
/-- z behind it as long as it is a keyword -/
theorem cn39 {h0 : sm_H} (hS0 : ab_Sh sx_sk h0) (hG : cg_G f it g Y kw h0) {zl : Int} (ol : mi_in zl) : ∀ (m n : Nat) (v : Nat) (h : sm_H) (s : gm_S), 7 ≤ m + n → 1 ≤ n → n ≤ 6 → 0 < v → v < 2 ^ (5 * n) → (n = 6 → 33554432 ≤ v) → ab_Sh sx_sk h → ab_Fr [(13702, 13703)] h0 h → gq_R h s → me_E (d + 2) 134 39 [some (.inr (.inr 107)), some (.inl zl), some (.inl (v : Int)), some (.inl (n : Int))] [] h (cn_Q h0 s (gm_zs kw m n (v : Int))) := by
  intro m
  induction m with
  | zero => intro n v h s a1 a2 a3; omega
  | succ m ih =>
    intro n v h s a1 a2 a3 a4 a5 a6 hS hF hR
    have hle : (2 : Nat) ^ (5 * n) ≤ 2 ^ 30 := Nat.pow_le_pow_right (by decide) (by omega)
    have on : mi_in (n : Int) := ⟨by omega, by omega⟩
    have ov : mi_in (v : Int) := ⟨by omega, by omega⟩
    have hG1 : cg_G f it g Y kw h := cg_G_fr hG hF hS0 rfl
    obtain ⟨-, -, -, g1, g2, g3⟩ := hG1
    unfold gm_zs
    refine mt_kgnE hS ol ov on ?_ ?_
    · intro c1 h1 r1 r2
      have e3 := me_nil r2
      subst e3
      rw [if_neg (fun q => by have := g3 _ q; have := a6 (by omega); omega)]
      exact ⟨r1, hF, hR, rfl⟩
    · intro c1 h1 r1 r2
      have e3 := me_nil r2
      subst e3
      refine ⟨_, me_gliteral (d := d) hS ov g1, ?_⟩
      intro w h2 hw hq
      obtain ⟨rfl, z, rfl, hz⟩ := hq
      have k := g2 (v : Int) (by omega) (by omega)
      refine mt_kgnF hS ol ov on (hw _ rfl) ?_ ?_
      · intro c2 h3 s1 s2
        have e4 := me_nil s2
        subst e4
        have hn : ¬ kw (v : Int) = true := fun q => by
          obtain ⟨l, l1, l2⟩ := k.mpr q
          rcases hz with ⟨z1, -⟩ | ⟨-, z2⟩
          · omega
          · exact z2 l l1 l2
        rw [if_neg hn]
        exact ⟨s1, hF, hR, rfl⟩
      · intro c2
        have hy : kw (v : Int) = true := by
          rcases hz with ⟨z1, z2, z3, -⟩ | ⟨z1, -⟩
          · exact k.mp ⟨z.toNat, by omega, z3⟩
          · exact absurd z1 c2
        rw [if_pos hy]
        refine ⟨⟨⟨by omega, by omega⟩, by omega, by omega⟩, fun h3 s1 s2 => ?_⟩
        have e4 := me_nil s2
        subst e4
        have hn5 : n = 1 ∨ n = 2 ∨ n = 3 ∨ n = 4 ∨ n = 5 := by omega
        have hs : (Int32.ofInt ((Int32.ofInt ((26 : Int)) <<< (Int32.ofInt (((5 : Int)) * (n : Int)) &&& 31)).toInt)).toBitVec.toNat = 26 * 2 ^ (5 * n) := by
          rcases hn5 with rfl | rfl | rfl | rfl | rfl <;> decide
        have hv : (Int32.ofInt (v : Int)).toBitVec.toNat = v := by have := cn_n (z := (v : Int)) (by omega) (by omega); omega
        have hb : v + 26 * 2 ^ (5 * n) < 2 ^ (5 * (n + 1)) := by
          rw [Nat.mul_add, Nat.pow_add]
          have := Nat.two_pow_pos (5 * n)
          omega
        have hb2 : (2 : Nat) ^ (5 * (n + 1)) ≤ 2 ^ 30 := Nat.pow_le_pow_right (by decide) (by omega)
        rw [cn_or hv a5 hs (by omega)]
        have ev : ((v + 26 * 2 ^ (5 * n) : Nat) : Int) = (v : Int) + 26 * 32 ^ n := by
          rw [← gx_32]
          push_cast
          rfl
        have key := ih (n + 1) (v + 26 * 2 ^ (5 * n)) _ s (by omega) (by omega) (by omega) (by omega) hb (fun e => by
          have e5 : n = 5 := by omega
          rw [e5]
          omega) hS hF hR
        rw [ev] at key
        rw [ev]
        exact key
/-- the letters -/
theorem cn12 {h0 : sm_H} (hS0 : ab_Sh sx_sk h0) (hG : cg_G f it g Y kw h0) {L : Nat} (l0 : 1 ≤ L) (l1 : L ≤ 3) : ∀ (m n : Nat) (v : Nat) (h : sm_H) (s : gm_S), n + m = L → v < 2 ^ (5 * n) → (1 ≤ n → 0 < v) → ab_Sh sx_sk h → ab_Fr [(13702, 13703)] h0 h → gq_R h s → me_E (d + 2) 134 12 [some (.inr (.inr 107)), some (.inl (L : Int)), some (.inl (v : Int)), some (.inl (n : Int))] [] h (cn_Q h0 ((gm_ls m n (gm_X s) (v : Int)).2, gm_F s, gm_T s, gm_D s, gm_P s) (gm_zs kw 7 L (gm_ls m n (gm_X s) (v : Int)).1)) := by
  have ol : mi_in (L : Int) := ⟨by omega, by omega⟩
  intro m
  induction m with
  | zero =>
    intro n v h s a1 a2 a3 hS hF hR
    have e : n = L := by omega
    subst e
    have hle : (2 : Nat) ^ (5 * n) ≤ 2 ^ 30 := Nat.pow_le_pow_right (by decide) (by omega)
    have ov : mi_in (v : Int) := ⟨by omega, by omega⟩
    rw [gm_ls_0]
    refine mt_kgnC hS ol ov ol ?_ (by intros; exfalso; omega)
    intro c1 h1 r1 r2
    have e3 := me_nil r2
    subst e3
    exact cn39 hS0 hG ol 7 n v h1 s (by omega) (by omega) (by omega) (a3 l0) a2 (fun e => by omega) hS hF hR
  | succ m ih =>
    intro n v h s a1 a2 a3 hS hF hR
    have hle : (2 : Nat) ^ (5 * n) ≤ 2 ^ 30 := Nat.pow_le_pow_right (by decide) (by omega)
    have ov : mi_in (v : Int) := ⟨by omega, by omega⟩
    have on : mi_in (n : Int) := ⟨by omega, by omega⟩
    refine mt_kgnC hS ol ov on (by intros; exfalso; omega) ?_
    intro c1 h1 r1 r2
    have e3 := me_nil r2
    subst e3
    obtain ⟨y, hy⟩ : ∃ y, gm_x (gm_X s) = y := ⟨_, rfl⟩
    obtain ⟨z, hz⟩ : ∃ z, gm_v y 3 = z := ⟨_, rfl⟩
    have hzb := gm_vbt y 3 (by decide) (by decide)
    rw [hz] at hzb
    refine ⟨_, me_gdrawx (d := d) hS hR (by decide) (by decide) hy hz, ?_⟩
    intro w h2 hw hq
    obtain ⟨q1, q2, q3, rfl⟩ := hq
    rw [gm_ls_s, hy, hz]
    refine mt_kgnD q1 ol ov on (hw _ rfl) ⟨by decide, by decide⟩ ov ?_
    refine ⟨⟨⟨by omega, by omega⟩, ⟨by omega, by omega⟩, by omega, by omega⟩, fun h3 s1 s2 => ?_⟩
    have e4 := me_nil s2
    subst e4
    have hn3 : n = 0 ∨ n = 1 ∨ n = 2 := by omega
    have hz3 : z = 0 ∨ z = 1 ∨ z = 2 := by omega
    have hs : (Int32.ofInt ((Int32.ofInt (((1 : Int)) + z) <<< (Int32.ofInt (((5 : Int)) * (n : Int)) &&& 31)).toInt)).toBitVec.toNat = (1 + z).toNat * 2 ^ (5 * n) := by
      rcases hn3 with rfl | rfl | rfl <;> rcases hz3 with rfl | rfl | rfl <;> decide
    have hv : (Int32.ofInt (v : Int)).toBitVec.toNat = v := by have := cn_n (z := (v : Int)) (by omega) (by omega); omega
    have hp := Nat.two_pow_pos (5 * n)
    have hm3 : (1 + z).toNat * 2 ^ (5 * n) ≤ 3 * 2 ^ (5 * n) := Nat.mul_le_mul_right _ (by omega)
    have hm1 : 1 * 2 ^ (5 * n) ≤ (1 + z).toNat * 2 ^ (5 * n) := Nat.mul_le_mul_right _ (by omega)
    have hb : v + (1 + z).toNat * 2 ^ (5 * n) < 2 ^ (5 * (n + 1)) := by
      rw [Nat.mul_add, Nat.pow_add]
      omega
    have hb2 : (2 : Nat) ^ (5 * (n + 1)) ≤ 2 ^ 30 := Nat.pow_le_pow_right (by decide) (by omega)
    rw [cn_or hv a2 hs (by omega)]
    have ev : ((v + (1 + z).toNat * 2 ^ (5 * n) : Nat) : Int) = (v : Int) + (1 + z) * 32 ^ n := by
      rw [← gx_32, Int.natCast_add, Int.natCast_mul, Int.toNat_of_nonneg (by omega)]
    have key := ih (n + 1) (v + (1 + z).toNat * 2 ^ (5 * n)) h3 (y, gm_F s, gm_T s, gm_D s, gm_P s) (by omega) hb (fun _ => by omega) q1 (hF.trans q2) q3
    rw [ev, gm_X_mk, gm_F_mk, gm_T_mk, gm_D_mk, gm_P_mk] at key
    rw [ev]
    exact key
theorem me_gname (hS : ab_Sh sx_sk h) (hG : cg_G f it g Y kw h) (hR : gq_R h s) : me_E (d + 2) 134 0 [some (.inr (.inr 107)), none, none, none] [] h (cn_Q h ((gm_nm kw (gm_X s)).2, gm_F s, gm_T s, gm_D s, gm_P s) (gm_nm kw (gm_X s)).1) := by
  obtain ⟨y, hy⟩ : ∃ y, gm_x (gm_X s) = y := ⟨_, rfl⟩
  obtain ⟨z, hz⟩ : ∃ z, gm_v y 3 = z := ⟨_, rfl⟩
  have hzb := gm_vbt y 3 (by decide) (by decide)
  rw [hz] at hzb
  rw [gm_nm_e hy hz]
  refine mt_kgnA hS ?_
  intro h1 g1 g2
  have e3 := me_nil g2
  subst e3
  refine ⟨_, me_gdrawx (d := d) hS hR (by decide) (by decide) hy hz, ?_⟩
  intro w h2 hw hq
  obtain ⟨q1, q2, q3, rfl⟩ := hq
  refine mt_kgnB q1 (hw _ rfl) ⟨by decide, by decide⟩ ?_
  refine ⟨⟨by omega, by omega⟩, fun h3 s1 s2 => ?_⟩
  have e4 := me_nil s2
  subst e4
  have key := cn12 (d := d) hS hG (L := (1 + z).toNat) (by omega) (by omega) (1 + z).toNat 0 0 h3 (y, gm_F s, gm_T s, gm_D s, gm_P s) (by omega) (by decide) (fun e => by omega) q1 q2 q3
  have eL : (((1 + z).toNat : Nat) : Int) = 1 + z := by omega
  have e1 : ((0 : Nat) : Int) = 0 := rfl
  rw [gm_X_mk, gm_F_mk, gm_T_mk, gm_D_mk, gm_P_mk, eL, e1] at key
  exact key
end CW2
