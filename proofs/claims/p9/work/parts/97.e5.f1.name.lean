/-! the class's names, and what a leaf gives -/
section CW2
theorem cn_n {z : Int} (h0 : 0 ≤ z) (h1 : z < 2147483648) : ((Int32.ofInt z).toBitVec.toNat : Int) = z := by
  have e2 : (Int32.ofInt z).toBitVec.toInt = z := mi_ti (z := z) ⟨by omega, by omega⟩
  have e3 := BitVec.toInt_eq_toNat_cond (Int32.ofInt z).toBitVec
  have e4 := (Int32.ofInt z).toBitVec.isLt
  split at e3 <;> omega
theorem cn_or {zv y : Int32} {v a k : Nat} (hv : zv.toBitVec.toNat = v) (hk : v < 2 ^ k) (hy : y.toBitVec.toNat = a * 2 ^ k) (hb : v + a * 2 ^ k < 2147483648) : (zv ||| y).toInt = ((v + a * 2 ^ k : Nat) : Int) := by
  have e : (zv ||| y).toBitVec.toNat = v + a * 2 ^ k := by rw [Int32.toBitVec_or, BitVec.toNat_or, hv, hy, Nat.or_comm, ← Nat.shiftLeft_eq, ← Nat.shiftLeft_add_eq_or_of_lt hk, Nat.shiftLeft_eq, Nat.add_comm]
  show (zv ||| y).toBitVec.toInt = _
  rw [BitVec.toInt_eq_toNat_of_lt (by rw [e]; omega), e]
variable {h : sm_H} {s : gm_S} {d : Nat} {f : Int → Int} {it : Int → Prop} {g : wk_g} {Y : wk_Y} {kw : Int → Bool}
def cn_Q (h0 : sm_H) (s : gm_S) (v : Int) (w : Option mi_V) (h' : sm_H) : Prop := ab_Sh sx_sk h' ∧ ab_Fr [(13702, 13703)] h0 h' ∧ gq_R h' s ∧ w = some (.inl v)
/-- z behind it as long as it is a keyword -/
theorem cn39 {h0 : sm_H} (hS0 : ab_Sh sx_sk h0) (hG : cg_G f it g Y kw h0) {zl : Int} (ol : mi_in zl) : ∀ (m n : Nat) (v : Nat) (h : sm_H) (s : gm_S), 7 ≤ m + n → 1 ≤ n → n ≤ 6 → 0 < v → v < 2 ^ (5 * n) → (n = 6 → 33554432 ≤ v) → ab_Sh sx_sk h → ab_Fr [(13702, 13703)] h0 h → gq_R h s → me_E (d + 2) 134 39 [some (.inr (.inr 107)), some (.inl zl), some (.inl (v : Int)), some (.inl (n : Int))] [] h (cn_Q h0 s (gm_zs kw m n (v : Int))) := by
  intro m
  induction m with
  | zero => intro n v h s a1 a2 a3; omega
  | succ m ih =>
    intro n v h s a1 a2 a3 a4 a5 a6 hS hF hR
    have hle : (2 : Nat) ^ (5 * n) ≤ 2 ^ 30 := Nat.pow_le_pow_right (by decide) (by omega)
    have on : mi_in (n : Int) := ⟨by omega, by omega⟩
    have ov : mi_in (v : Int) := ⟨by omega, by omega⟩
    have hG1 : cg_G f it g Y kw h := cg_G_fr hG hF hS0 rfl
    obtain ⟨-, -, -, g1, g2, g3⟩ := hG1
    unfold gm_zs
    refine mt_kgnE hS ol ov on ?_ ?_
    · intro c1 h1 r1 r2
      have e3 := me_nil r2
      subst e3
      rw [if_neg (fun q => by have := g3 _ q; have := a6 (by omega); omega)]
      exact ⟨r1, hF, hR, rfl⟩
    · intro c1 h1 r1 r2
      have e3 := me_nil r2
      subst e3
      refine ⟨_, me_gliteral (d := d) hS ov g1, ?_⟩
      intro w h2 hw hq
      obtain ⟨rfl, z, rfl, hz⟩ := hq
      have k := g2 (v : Int) (by omega) (by omega)
      refine mt_kgnF hS ol ov on (hw _ rfl) ?_ ?_
      · intro c2 h3 s1 s2
        have e4 := me_nil s2
        subst e4
        have hn : ¬ kw (v : Int) = true := fun q => by
          obtain ⟨l, l1, l2⟩ := k.mpr q
          rcases hz with ⟨z1, -⟩ | ⟨-, z2⟩
          · omega
          · exact z2 l l1 l2
        rw [if_neg hn]
        exact ⟨s1, hF, hR, rfl⟩
      · intro c2
        have hy : kw (v : Int) = true := by
          rcases hz with ⟨z1, z2, z3, -⟩ | ⟨z1, -⟩
          · exact k.mp ⟨z.toNat, by omega, z3⟩
          · exact absurd z1 c2
        rw [if_pos hy]
        refine ⟨⟨⟨by omega, by omega⟩, by omega, by omega⟩, fun h3 s1 s2 => ?_⟩
        have e4 := me_nil s2
        subst e4
        have hn5 : n = 1 ∨ n = 2 ∨ n = 3 ∨ n = 4 ∨ n = 5 := by omega
        have hs : (Int32.ofInt ((Int32.ofInt ((26 : Int)) <<< (Int32.ofInt (((5 : Int)) * (n : Int)) &&& 31)).toInt)).toBitVec.toNat = 26 * 2 ^ (5 * n) := by
          rcases hn5 with rfl | rfl | rfl | rfl | rfl <;> decide
        have hv : (Int32.ofInt (v : Int)).toBitVec.toNat = v := by have := cn_n (z := (v : Int)) (by omega) (by omega); omega
        have hb : v + 26 * 2 ^ (5 * n) < 2 ^ (5 * (n + 1)) := by
          rw [Nat.mul_add, Nat.pow_add]
          have := Nat.two_pow_pos (5 * n)
          omega
        have hb2 : (2 : Nat) ^ (5 * (n + 1)) ≤ 2 ^ 30 := Nat.pow_le_pow_right (by decide) (by omega)
        rw [cn_or hv a5 hs (by omega)]
        have ev : ((v + 26 * 2 ^ (5 * n) : Nat) : Int) = (v : Int) + 26 * 32 ^ n := by
          rw [← gx_32]
          push_cast
          rfl
        have key := ih (n + 1) (v + 26 * 2 ^ (5 * n)) _ s (by omega) (by omega) (by omega) (by omega) hb (fun e => by
          have e5 : n = 5 := by omega
          rw [e5]
          omega) hS hF hR
        rw [ev] at key
        rw [ev]
        exact key
/-- the letters -/
theorem cn12 {h0 : sm_H} (hS0 : ab_Sh sx_sk h0) (hG : cg_G f it g Y kw h0) {L : Nat} (l0 : 1 ≤ L) (l1 : L ≤ 3) : ∀ (m n : Nat) (v : Nat) (h : sm_H) (s : gm_S), n + m = L → v < 2 ^ (5 * n) → (1 ≤ n → 0 < v) → ab_Sh sx_sk h → ab_Fr [(13702, 13703)] h0 h → gq_R h s → me_E (d + 2) 134 12 [some (.inr (.inr 107)), some (.inl (L : Int)), some (.inl (v : Int)), some (.inl (n : Int))] [] h (cn_Q h0 ((gm_ls m n (gm_X s) (v : Int)).2, gm_F s, gm_T s, gm_D s, gm_P s) (gm_zs kw 7 L (gm_ls m n (gm_X s) (v : Int)).1)) := by
  have ol : mi_in (L : Int) := ⟨by omega, by omega⟩
  intro m
  induction m with
  | zero =>
    intro n v h s a1 a2 a3 hS hF hR
    have e : n = L := by omega
    subst e
    have hle : (2 : Nat) ^ (5 * n) ≤ 2 ^ 30 := Nat.pow_le_pow_right (by decide) (by omega)
    have ov : mi_in (v : Int) := ⟨by omega, by omega⟩
    rw [gm_ls_0]
    refine mt_kgnC hS ol ov ol ?_ (by intros; exfalso; omega)
    intro c1 h1 r1 r2
    have e3 := me_nil r2
    subst e3
    exact cn39 hS0 hG ol 7 n v h1 s (by omega) (by omega) (by omega) (a3 l0) a2 (fun e => by omega) hS hF hR
  | succ m ih =>
    intro n v h s a1 a2 a3 hS hF hR
    have hle : (2 : Nat) ^ (5 * n) ≤ 2 ^ 30 := Nat.pow_le_pow_right (by decide) (by omega)
    have ov : mi_in (v : Int) := ⟨by omega, by omega⟩
    have on : mi_in (n : Int) := ⟨by omega, by omega⟩
    refine mt_kgnC hS ol ov on (by intros; exfalso; omega) ?_
    intro c1 h1 r1 r2
    have e3 := me_nil r2
    subst e3
    obtain ⟨y, hy⟩ : ∃ y, gm_x (gm_X s) = y := ⟨_, rfl⟩
    obtain ⟨z, hz⟩ : ∃ z, gm_v y 3 = z := ⟨_, rfl⟩
    have hzb := gm_vbt y 3 (by decide) (by decide)
    rw [hz] at hzb
    refine ⟨_, me_gdrawx (d := d) hS hR (by decide) (by decide) hy hz, ?_⟩
    intro w h2 hw hq
    obtain ⟨q1, q2, q3, rfl⟩ := hq
    rw [gm_ls_s, hy, hz]
    refine mt_kgnD q1 ol ov on (hw _ rfl) ⟨by decide, by decide⟩ ov ?_
    refine ⟨⟨⟨by omega, by omega⟩, ⟨by omega, by omega⟩, by omega, by omega⟩, fun h3 s1 s2 => ?_⟩
    have e4 := me_nil s2
    subst e4
    have hn3 : n = 0 ∨ n = 1 ∨ n = 2 := by omega
    have hz3 : z = 0 ∨ z = 1 ∨ z = 2 := by omega
    have hs : (Int32.ofInt ((Int32.ofInt (((1 : Int)) + z) <<< (Int32.ofInt (((5 : Int)) * (n : Int)) &&& 31)).toInt)).toBitVec.toNat = (1 + z).toNat * 2 ^ (5 * n) := by
      rcases hn3 with rfl | rfl | rfl <;> rcases hz3 with rfl | rfl | rfl <;> decide
    have hv : (Int32.ofInt (v : Int)).toBitVec.toNat = v := by have := cn_n (z := (v : Int)) (by omega) (by omega); omega
    have hp := Nat.two_pow_pos (5 * n)
    have hm3 : (1 + z).toNat * 2 ^ (5 * n) ≤ 3 * 2 ^ (5 * n) := Nat.mul_le_mul_right _ (by omega)
    have hm1 : 1 * 2 ^ (5 * n) ≤ (1 + z).toNat * 2 ^ (5 * n) := Nat.mul_le_mul_right _ (by omega)
    have hb : v + (1 + z).toNat * 2 ^ (5 * n) < 2 ^ (5 * (n + 1)) := by
      rw [Nat.mul_add, Nat.pow_add]
      omega
    have hb2 : (2 : Nat) ^ (5 * (n + 1)) ≤ 2 ^ 30 := Nat.pow_le_pow_right (by decide) (by omega)
    rw [cn_or hv a2 hs (by omega)]
    have ev : ((v + (1 + z).toNat * 2 ^ (5 * n) : Nat) : Int) = (v : Int) + (1 + z) * 32 ^ n := by
      rw [← gx_32, Int.natCast_add, Int.natCast_mul, Int.toNat_of_nonneg (by omega)]
    have key := ih (n + 1) (v + (1 + z).toNat * 2 ^ (5 * n)) h3 (y, gm_F s, gm_T s, gm_D s, gm_P s) (by omega) hb (fun _ => by omega) q1 (hF.trans q2) q3
    rw [ev, gm_X_mk, gm_F_mk, gm_T_mk, gm_D_mk, gm_P_mk] at key
    rw [ev]
    exact key
theorem me_gname (hS : ab_Sh sx_sk h) (hG : cg_G f it g Y kw h) (hR : gq_R h s) : me_E (d + 2) 134 0 [some (.inr (.inr 107)), none, none, none] [] h (cn_Q h ((gm_nm kw (gm_X s)).2, gm_F s, gm_T s, gm_D s, gm_P s) (gm_nm kw (gm_X s)).1) := by
  obtain ⟨y, hy⟩ : ∃ y, gm_x (gm_X s) = y := ⟨_, rfl⟩
  obtain ⟨z, hz⟩ : ∃ z, gm_v y 3 = z := ⟨_, rfl⟩
  have hzb := gm_vbt y 3 (by decide) (by decide)
  rw [hz] at hzb
  rw [gm_nm_e hy hz]
  refine mt_kgnA hS ?_
  intro h1 g1 g2
  have e3 := me_nil g2
  subst e3
  refine ⟨_, me_gdrawx (d := d) hS hR (by decide) (by decide) hy hz, ?_⟩
  intro w h2 hw hq
  obtain ⟨q1, q2, q3, rfl⟩ := hq
  refine mt_kgnB q1 (hw _ rfl) ⟨by decide, by decide⟩ ?_
  refine ⟨⟨by omega, by omega⟩, fun h3 s1 s2 => ?_⟩
  have e4 := me_nil s2
  subst e4
  have key := cn12 (d := d) hS hG (L := (1 + z).toNat) (by omega) (by omega) (1 + z).toNat 0 0 h3 (y, gm_F s, gm_T s, gm_D s, gm_P s) (by omega) (by decide) (fun e => by omega) q1 q2 q3
  have eL : (((1 + z).toNat : Nat) : Int) = 1 + z := by omega
  have e1 : ((0 : Nat) : Int) = 0 := rfl
  rw [gm_X_mk, gm_F_mk, gm_T_mk, gm_D_mk, gm_P_mk, eL, e1] at key
  exact key
/-- what the walk over a part, a unit, a form, a use does: M: from where the pure one goes, by what lies below -/
def gm_RO (g : wk_g) (kw : Int → Bool) (m : Option gm_C) (c : gm_C) : Prop := ∃ c1 n, m = some c1 ∧ gm_to g kw n c1 c
def gm_NO (g : wk_g) (kw : Int → Bool) (m : Option gm_C) : Prop := m = none ∨ ∃ c1 n, m = some c1 ∧ gm_no g kw n c1
def gq_Q (g : wk_g) (kw : Int → Bool) (h0 : sm_H) (u : Int) (M : List wk_E → Option gm_C) (s : gm_S) (w : Option mi_V) (h' : sm_H) : Prop := w = none ∧ ab_Sh sx_sk h' ∧ ab_Fr gq_W h0 h' ∧ mi_f h' 13701 = u ∧ ((mi_f h' 13699 = 1 ∧ mi_f h' 13700 = 1 ∧ ∀ r, wk_ul r = u → gm_NO g kw (M r)) ∨ (mi_f h' 13699 = 0 ∧ mi_f h' 13700 = 0 ∧ ∃ s', gq_R h' s' ∧ (gm_D s' = gm_D s ∧ gm_P s' = gm_P s ∧ ∃ A, gm_T s' = gm_T s ++ A) ∧ ∀ r, wk_ul r = u → gm_RO g kw (M r) (r, s')))
/-- where it is called -/
def gq_in (h : sm_H) (u : Int) (s : gm_S) : Prop := ab_Sh sx_sk h ∧ mi_f h 13699 = 0 ∧ mi_f h 13700 = 0 ∧ mi_f h 13701 = u ∧ gq_R h s
theorem gm_c_A {k v : Int} {x : Int64} {s t : gm_S} (h : gm_c k v (x, gm_F s, gm_T s, gm_D s, gm_P s) = some t) : gm_D t = gm_D s ∧ gm_P t = gm_P s ∧ ∃ A, gm_T t = gm_T s ++ A := by
  obtain ⟨-, -, a, b, c⟩ := gm_c_t h
  exact ⟨b.trans (gm_D_mk _ _ _ _ _), c.trans (gm_P_mk _ _ _ _ _), _, a.trans (congrArg (fun q => q ++ _) (gm_T_mk _ _ _ _ _))⟩
theorem gm_lf_A {o : Int} {t : gm_S} (h : gm_lf kw o s = some t) : gm_D t = gm_D s ∧ gm_P t = gm_P s ∧ ∃ A, gm_T t = gm_T s ++ A := by
  by_cases o1 : o = 1
  · obtain ⟨y, hy⟩ : ∃ y, gm_x (gm_X s) = y := ⟨_, rfl⟩
    obtain ⟨z, hz⟩ : ∃ z, gm_v y 10000 = z := ⟨_, rfl⟩
    rw [gm_lf_1 o1 hy hz] at h
    exact gm_c_A h
  · by_cases o2 : o = 2
    · obtain ⟨y, hy⟩ : ∃ y, gm_x (gm_X s) = y := ⟨_, rfl⟩
      obtain ⟨z, hz⟩ : ∃ z, gm_v y 3 = z := ⟨_, rfl⟩
      rw [gm_lf_2 o2 hy hz] at h
      exact gm_c_A h
    · rw [gm_lf_o o1 o2] at h
      injection h with h
      subst h
      exact ⟨rfl, rfl, [], (List.append_nil _).symm⟩
theorem me_gleaf {zp u : Int} (hi : gq_in h u s) (hG : cg_G f it g Y kw h) (p0 : 0 ≤ zp) (p1 : zp < wk_u Y) (n9 : g 119 zp.toNat ≠ 9) (n10 : g 119 zp.toNat ≠ 10) : me_E (d + 3) 133 0 [some (.inr (.inr 107)), some (.inl zp), none] [] h (gq_Q g kw h u (fun r => gm_sg g kw zp r s) s) := by
  obtain ⟨hS, i1, i2, i3, hR⟩ := hi
  have hu60 := hG.1.1
  have hU := hG.2.2.1 zp p0 p1
  have e68 := hU.1
  have op : mi_in zp := ⟨by omega, by omega⟩
  have o68 : mi_in (mi_a h 68 zp.toNat) := mi_inT _
  have eM : (fun r => gm_sg g kw zp r s) = fun r => (gm_lf kw (g 119 zp.toNat) s).map (fun t => (r, t)) := funext fun r => gm_sg_lf n9 n10
  rw [eM]
  -- behind the node
  have fin : ∀ (kd v : Int) (s1 : gm_S) (h2 h3 h4 : sm_H) (w : Option mi_V), gm_lf kw (g 119 zp.toNat) s = gm_c kd v s1 → gm_D s1 = gm_D s → gm_P s1 = gm_P s → gm_T s1 = gm_T s → ab_Sh sx_sk h2 → ab_Fr [(13702, 13703)] h h2 → ab_Sh sx_sk h3 → ab_Fr gq_en h2 h3 → ((gm_c kd v s1 = none ∧ w = some (.inl (-1)) ∧ mi_f h3 13699 = 1 ∧ mi_f h3 13700 = 1) ∨ (∃ t, gm_c kd v s1 = some t ∧ w = some (.inl (gm_len s1)) ∧ mi_f h3 13699 = 0 ∧ mi_f h3 13700 = 0 ∧ gq_R h3 t)) → ab_Fr [] h3 h4 → gq_Q g kw h u (fun r => (gm_lf kw (g 119 zp.toNat) s).map (fun t => (r, t))) s none h4 := by
    intro kd v s1 h2 h3 h4 w e1 e2 e3 e4 g1 g2 q1 q2 q3 r2
    have e := me_nil r2
    subst e
    refine ⟨rfl, q1, (g2.wide (fun c hc => ab_swr_ok (by decide) hc)).trans (q2.wide (fun c hc => ab_swr_ok (by decide) hc)), ((me_f (c := 13701) q2 g1 rfl rfl).trans (me_f (c := 13701) g2 hS rfl rfl)).trans i3, ?_⟩
    rcases q3 with ⟨q3, -, q4, q5⟩ | ⟨t, q3, -, q4, q5, q6⟩
    · refine Or.inl ⟨q4, q5, fun r _ => Or.inl ?_⟩
      rw [e1, q3]
      rfl
    · obtain ⟨-, -, t1, t2, t3⟩ := gm_c_t q3
      refine Or.inr ⟨q4, q5, t, q6, ⟨t2.trans e2, t3.trans e3, _, by rw [t1, e4]⟩, fun r _ => ⟨(r, t), 0, ?_, rfl⟩⟩
      rw [e1, q3]
      rfl
  refine mt_kgfA hS op (by intros; exfalso; omega) (by intros; exfalso; omega) ?_ ?_ ?_
  · intro c1 c2 c3 c4
    rw [e68] at c3 c4
    refine ⟨⟨by omega, by omega⟩, fun h1 g1 g2 => ?_⟩
    have e := me_nil g2
    subst e
    rw [gm_lf_o c3 c4]
    exact ⟨rfl, hS, ab_Fr.refl, i3, Or.inr ⟨i1, i2, s, hR, ⟨rfl, rfl, [], (List.append_nil _).symm⟩, fun r _ => ⟨(r, s), 0, rfl, rfl⟩⟩⟩
  · intro c1 c2 c3 c4
    refine ⟨⟨by omega, by omega⟩, fun h1 g1 g2 => ?_⟩
    have e := me_nil g2
    subst e
    refine ⟨_, me_gname (d := d) hS hG hR, ?_⟩
    intro w h2 hw hq
    obtain ⟨q1, q2, q3, rfl⟩ := hq
    have hl : gm_lf kw (g 119 zp.toNat) s = gm_c 3 (gm_nm kw (gm_X s)).1 ((gm_nm kw (gm_X s)).2, gm_F s, gm_T s, gm_D s, gm_P s) := by
      unfold gm_lf
      rw [if_neg (by rw [← e68]; exact c3), if_pos (by rw [← e68]; exact c4)]
    generalize hv : (gm_nm kw (gm_X s)).1 = v at hw hl ⊢
    generalize (gm_nm kw (gm_X s)).2 = y at q3 hl
    refine mt_kgfD q1 op o68 (hw _ rfl) ⟨by decide, by decide⟩ ?_
    intro h3 r1 r2
    have e := me_nil r2
    subst e
    refine ⟨_, me_genter (d := d) q1 ⟨by decide, by decide⟩ (hw _ rfl) ((me_f (c := 13699) q2 hS rfl rfl).trans i1) ((me_f (c := 13700) q2 hS rfl rfl).trans i2) q3, ?_⟩
    intro w3 h3' hw3 hq3
    obtain ⟨t1, t2, t3⟩ := hq3
    have hz : ∃ z, w3 = some (.inl z) := by
      rcases t3 with ⟨-, t3, -⟩ | ⟨-, -, t3, -⟩
      · exact ⟨_, t3⟩
      · exact ⟨_, t3⟩
    obtain ⟨z, rfl⟩ := hz
    refine mt_kgfE t1 op o68 (hw3 _ rfl) ?_
    intro h4 u1 u2
    exact fin 3 v _ _ h3' h4 _ hl (gm_D_mk _ _ _ _ _) (gm_P_mk _ _ _ _ _) (gm_T_mk _ _ _ _ _) q1 q2 t1 t2 t3 u2
  · intro c1 c2 c3
    refine ⟨⟨by omega, by omega⟩, fun h1 g1 g2 => ?_⟩
    have e := me_nil g2
    subst e
    obtain ⟨y, hy⟩ : ∃ y, gm_x (gm_X s) = y := ⟨_, rfl⟩
    obtain ⟨z, hz⟩ : ∃ z, gm_v y 10000 = z := ⟨_, rfl⟩
    have hl := gm_lf_1 (kw := kw) (e68.symm.trans c3) hy hz
    refine ⟨_, me_gdrawx (d := d + 1) hS hR (by decide) (by decide) hy hz, ?_⟩
    intro w h2 hw hq
    obtain ⟨q1, q2, q3, rfl⟩ := hq
    refine mt_kgfB q1 op o68 (hw _ rfl) ⟨by decide, by decide⟩ ?_
    intro h3 r1 r2
    have e := me_nil r2
    subst e
    refine ⟨_, me_genter (d := d) q1 ⟨by decide, by decide⟩ (hw _ rfl) ((me_f (c := 13699) q2 hS rfl rfl).trans i1) ((me_f (c := 13700) q2 hS rfl rfl).trans i2) q3, ?_⟩
    intro w3 h3' hw3 hq3
    obtain ⟨t1, t2, t3⟩ := hq3
    have hz : ∃ z, w3 = some (.inl z) := by
      rcases t3 with ⟨-, t3, -⟩ | ⟨-, -, t3, -⟩
      · exact ⟨_, t3⟩
      · exact ⟨_, t3⟩
    obtain ⟨z2, rfl⟩ := hz
    refine mt_kgfC t1 op o68 (hw3 _ rfl) ?_
    intro h4 u1 u2
    exact fin 2 z _ _ h3' h4 _ hl (gm_D_mk _ _ _ _ _) (gm_P_mk _ _ _ _ _) (gm_T_mk _ _ _ _ _) q1 q2 t1 t2 t3 u2
end CW2
