/-! the class's texts: a character more; what is printed: write, separate -/
def tx_alc (z : Int) : Prop := z = 10 ∨ (32 ≤ z ∧ z ≤ 126)
section TXD
variable {d : Nat} {h : sm_H}
theorem me_cast59 {m pc : Nat} {M : sm_M} {ls : mi_L} {v i : Int} {Q : Option mi_V → sm_H → Prop} (hM : sc_P m = some M) (hq : M.2.2[pc]? = some (some (.castore, 1, []))) (hS : ab_Sh sx_sk h) (v0 : 0 ≤ v) (v1 : v ≤ 65535) (i0 : 0 ≤ i) (i1 : i < 160) (K : ∀ h1, ab_Sh sx_sk h1 → (∀ j, mi_a h1 59 j = if j = i.toNat then v else mi_a h 59 j) → ab_Fr [(7552, 7552 + 1)] h h1 → me_E d m (pc + 1) ls [] h1 Q) : me_E d m pc ls [.inl v, .inl i, .inr (.inr 59)] h Q := by
  have ov : mi_in v := ⟨by omega, by omega⟩
  have oi : mi_in i := ⟨by omega, by omega⟩
  have tv := mi_ti ov
  have ti := mi_ti oi
  have ev : (sm_chr (Int32.ofInt v)).toInt = v := by
    rw [ab_chr_eq, tv]
    omega
  have en : (Int32.ofInt i).toNatClampNeg = i.toNat := by
    unfold Int32.toNatClampNeg
    rw [ti]
  have hs : mx_step sx_sk (.castore, 1, []) pc (mi_cl ls) [.int (Int32.ofInt v), .int (Int32.ofInt i), .ref 59] h 0 = some (pc + 1, mi_cl ls, [], mx_pa h 59 (Int32.ofInt i).toNatClampNeg (sm_chr (Int32.ofInt v)), [0 ≤ (Int32.ofInt i).toInt ∧ (Int32.ofInt i).toInt < ((160 : Nat) : Int), 0 ≤ (sm_chr (Int32.ofInt v)).toInt ∧ (sm_chr (Int32.ofInt v)).toInt ≤ 65535]) := rfl
  obtain ⟨e1, e2⟩ := mx_step_ok hs hS (fun p hp => by
    simp only [List.mem_cons, List.not_mem_nil, or_false] at hp
    rcases hp with rfl | rfl
    · rw [ti]; omega
    · rw [ev]; omega)
  obtain ⟨f, hf, -⟩ := mx_arr (a := 59) (t := 2) (n := 160) (lo := 0) (hi := 65535) (ex := []) hS rfl (by decide)
  have ep : mx_pa h 59 (Int32.ofInt i).toNatClampNeg (sm_chr (Int32.ofInt v)) = h.set 59 (.inl (2, 160, .inl (upd f (Int32.ofInt i).toNatClampNeg (sm_chr (Int32.ofInt v))))) := by
    unfold mx_pa
    rw [hf]
  refine ab_Ends.step hM hq e1 (K _ e2 (fun j => ?_) ?_)
  · unfold mi_a
    rw [mx_a_pa (mx_Sh_Sp hS) rfl, en]
    by_cases c : j = i.toNat
    · rw [if_pos c, if_pos ⟨rfl, c⟩, ev]
    · rw [if_neg c, if_neg (fun q => c q.2)]
  · show ab_Fr _ h (mx_pa h 59 (Int32.ofInt i).toNatClampNeg (sm_chr (Int32.ofInt v)))
    rw [ep]
    exact ab_Fr_arr hf rfl (by decide)
/-- a character is put at the end -/
theorem me_app58 {zc : Int} (hS : ab_Sh sx_sk h) (hz : tx_alc zc) : me_E d 91 0 [some (.inr (.inr 58)), some (.inl zc), none] [] h (fun w h' => ab_Sh sx_sk h' ∧ ((w = some (.inl 1) ∧ mi_f h 7425 < 160 ∧ mi_f h' 7425 = mi_f h 7425 + 1 ∧ (∀ j, mi_a h' 59 j = if j = (mi_f h 7425).toNat then zc else mi_a h 59 j) ∧ ab_Fr [(7425, 7425 + 1), (7552, 7552 + 1)] h h') ∨ (w = some (.inl 0) ∧ 160 ≤ mi_f h 7425 ∧ h' = h))) := by
  unfold tx_alc at hz
  have oc : mi_in zc := ⟨by omega, by omega⟩
  have t24 : me_E d 91 24 [some (.inr (.inr 58)), some (.inl zc), some (.inl 1)] [] h (fun w h' => ab_Sh sx_sk h' ∧ ((w = some (.inl 1) ∧ mi_f h 7425 < 160 ∧ mi_f h' 7425 = mi_f h 7425 + 1 ∧ (∀ j, mi_a h' 59 j = if j = (mi_f h 7425).toNat then zc else mi_a h 59 j) ∧ ab_Fr [(7425, 7425 + 1), (7552, 7552 + 1)] h h') ∨ (w = some (.inl 0) ∧ 160 ≤ mi_f h 7425 ∧ h' = h))) := by
    refine mt_a58B hS oc ⟨by decide, by decide⟩ (fun q => absurd q (by decide)) (by intros; exfalso; omega) ?_ ?_
    · intro b c1 c2 c3 h1 g1 g2
      have e0 := me_nil g2
      subst e0
      refine me_cast59 (m := 91) (M := (3, 4, sb_91)) rfl rfl g1 (by omega) (by omega) c2 c3 (fun h2 s1 s2 s3 => ?_)
      have e57 : mi_f h2 7425 = mi_f h1 7425 := me_f (c := 7425) s3 g1 rfl rfl
      refine mt_a58C s1 oc ⟨by decide, by decide⟩ (fun b => ⟨by omega, fun h3 t1 t2 t3 => ⟨t1, Or.inl ⟨rfl, c3, by rw [t2, e57], fun j => ?_, (s3.wide (fun c hc => ab_swr_ok (by decide) hc)).trans (t3.wide (fun c hc => ab_swr_ok (by decide) hc))⟩⟩⟩)
      rw [me_a (k := 59) t3 s1 rfl rfl]
      exact s2 j
    · intro b c1 c2 c3 h1 g1 g2
      have e0 := me_nil g2
      subst e0
      exact ⟨g1, Or.inr ⟨rfl, c3, rfl⟩⟩
  refine mt_a58A hS oc ?_ ?_ ?_ ?_ ?_
  · intro c1 c2; exfalso; omega
  · intro c1 c2 h1 g1 g2
    have e0 := me_nil g2
    subst e0
    exact t24
  · intro c1 c2 h1 g1 g2
    have e0 := me_nil g2
    subst e0
    exact t24
  · intro c1 c2 c3; exfalso; omega
  · intro c1 c2 c3; exfalso; omega
theorem me_cast57 {m pc : Nat} {M : sm_M} {ls : mi_L} {v i : Int} {Q : Option mi_V → sm_H → Prop} (hM : sc_P m = some M) (hq : M.2.2[pc]? = some (some (.castore, 1, []))) (hS : ab_Sh sx_sk h) (v0 : 0 ≤ v) (v1 : v ≤ 65535) (i0 : 0 ≤ i) (i1 : i < 160) (K : ∀ h1, ab_Sh sx_sk h1 → (∀ j, mi_a h1 57 j = if j = i.toNat then v else mi_a h 57 j) → ab_Fr [(7296, 7296 + 1)] h h1 → me_E d m (pc + 1) ls [] h1 Q) : me_E d m pc ls [.inl v, .inl i, .inr (.inr 57)] h Q := by
  have ov : mi_in v := ⟨by omega, by omega⟩
  have oi : mi_in i := ⟨by omega, by omega⟩
  have tv := mi_ti ov
  have ti := mi_ti oi
  have ev : (sm_chr (Int32.ofInt v)).toInt = v := by
    rw [ab_chr_eq, tv]
    omega
  have en : (Int32.ofInt i).toNatClampNeg = i.toNat := by
    unfold Int32.toNatClampNeg
    rw [ti]
  have hs : mx_step sx_sk (.castore, 1, []) pc (mi_cl ls) [.int (Int32.ofInt v), .int (Int32.ofInt i), .ref 57] h 0 = some (pc + 1, mi_cl ls, [], mx_pa h 57 (Int32.ofInt i).toNatClampNeg (sm_chr (Int32.ofInt v)), [0 ≤ (Int32.ofInt i).toInt ∧ (Int32.ofInt i).toInt < ((160 : Nat) : Int), 0 ≤ (sm_chr (Int32.ofInt v)).toInt ∧ (sm_chr (Int32.ofInt v)).toInt ≤ 65535]) := rfl
  obtain ⟨e1, e2⟩ := mx_step_ok hs hS (fun p hp => by
    simp only [List.mem_cons, List.not_mem_nil, or_false] at hp
    rcases hp with rfl | rfl
    · rw [ti]; omega
    · rw [ev]; omega)
  obtain ⟨f, hf, -⟩ := mx_arr (a := 57) (t := 2) (n := 160) (lo := 0) (hi := 65535) (ex := []) hS rfl (by decide)
  have ep : mx_pa h 57 (Int32.ofInt i).toNatClampNeg (sm_chr (Int32.ofInt v)) = h.set 57 (.inl (2, 160, .inl (upd f (Int32.ofInt i).toNatClampNeg (sm_chr (Int32.ofInt v))))) := by
    unfold mx_pa
    rw [hf]
  refine ab_Ends.step hM hq e1 (K _ e2 (fun j => ?_) ?_)
  · unfold mi_a
    rw [mx_a_pa (mx_Sh_Sp hS) rfl, en]
    by_cases c : j = i.toNat
    · rw [if_pos c, if_pos ⟨rfl, c⟩, ev]
    · rw [if_neg c, if_neg (fun q => c q.2)]
  · show ab_Fr _ h (mx_pa h 57 (Int32.ofInt i).toNatClampNeg (sm_chr (Int32.ofInt v)))
    rw [ep]
    exact ab_Fr_arr hf rfl (by decide)
/-- a character is put at the end -/
theorem me_app56 {zc : Int} (hS : ab_Sh sx_sk h) (hz : tx_alc zc) : me_E d 91 0 [some (.inr (.inr 56)), some (.inl zc), none] [] h (fun w h' => ab_Sh sx_sk h' ∧ ((w = some (.inl 1) ∧ mi_f h 7169 < 160 ∧ mi_f h' 7169 = mi_f h 7169 + 1 ∧ (∀ j, mi_a h' 57 j = if j = (mi_f h 7169).toNat then zc else mi_a h 57 j) ∧ ab_Fr [(7169, 7169 + 1), (7296, 7296 + 1)] h h') ∨ (w = some (.inl 0) ∧ 160 ≤ mi_f h 7169 ∧ h' = h))) := by
  unfold tx_alc at hz
  have oc : mi_in zc := ⟨by omega, by omega⟩
  have t24 : me_E d 91 24 [some (.inr (.inr 56)), some (.inl zc), some (.inl 1)] [] h (fun w h' => ab_Sh sx_sk h' ∧ ((w = some (.inl 1) ∧ mi_f h 7169 < 160 ∧ mi_f h' 7169 = mi_f h 7169 + 1 ∧ (∀ j, mi_a h' 57 j = if j = (mi_f h 7169).toNat then zc else mi_a h 57 j) ∧ ab_Fr [(7169, 7169 + 1), (7296, 7296 + 1)] h h') ∨ (w = some (.inl 0) ∧ 160 ≤ mi_f h 7169 ∧ h' = h))) := by
    refine mt_a56B hS oc ⟨by decide, by decide⟩ (fun q => absurd q (by decide)) (by intros; exfalso; omega) ?_ ?_
    · intro b c1 c2 c3 h1 g1 g2
      have e0 := me_nil g2
      subst e0
      refine me_cast57 (m := 91) (M := (3, 4, sb_91)) rfl rfl g1 (by omega) (by omega) c2 c3 (fun h2 s1 s2 s3 => ?_)
      have e57 : mi_f h2 7169 = mi_f h1 7169 := me_f (c := 7169) s3 g1 rfl rfl
      refine mt_a56C s1 oc ⟨by decide, by decide⟩ (fun b => ⟨by omega, fun h3 t1 t2 t3 => ⟨t1, Or.inl ⟨rfl, c3, by rw [t2, e57], fun j => ?_, (s3.wide (fun c hc => ab_swr_ok (by decide) hc)).trans (t3.wide (fun c hc => ab_swr_ok (by decide) hc))⟩⟩⟩)
      rw [me_a (k := 57) t3 s1 rfl rfl]
      exact s2 j
    · intro b c1 c2 c3 h1 g1 g2
      have e0 := me_nil g2
      subst e0
      exact ⟨g1, Or.inr ⟨rfl, c3, rfl⟩⟩
  refine mt_a56A hS oc ?_ ?_ ?_ ?_ ?_
  · intro c1 c2; exfalso; omega
  · intro c1 c2 h1 g1 g2
    have e0 := me_nil g2
    subst e0
    exact t24
  · intro c1 c2 h1 g1 g2
    have e0 := me_nil g2
    subst e0
    exact t24
  · intro c1 c2 c3; exfalso; omega
  · intro c1 c2 c3; exfalso; omega
theorem me_cast55 {m pc : Nat} {M : sm_M} {ls : mi_L} {v i : Int} {Q : Option mi_V → sm_H → Prop} (hM : sc_P m = some M) (hq : M.2.2[pc]? = some (some (.castore, 1, []))) (hS : ab_Sh sx_sk h) (v0 : 0 ≤ v) (v1 : v ≤ 65535) (i0 : 0 ≤ i) (i1 : i < 160) (K : ∀ h1, ab_Sh sx_sk h1 → (∀ j, mi_a h1 55 j = if j = i.toNat then v else mi_a h 55 j) → ab_Fr [(7040, 7040 + 1)] h h1 → me_E d m (pc + 1) ls [] h1 Q) : me_E d m pc ls [.inl v, .inl i, .inr (.inr 55)] h Q := by
  have ov : mi_in v := ⟨by omega, by omega⟩
  have oi : mi_in i := ⟨by omega, by omega⟩
  have tv := mi_ti ov
  have ti := mi_ti oi
  have ev : (sm_chr (Int32.ofInt v)).toInt = v := by
    rw [ab_chr_eq, tv]
    omega
  have en : (Int32.ofInt i).toNatClampNeg = i.toNat := by
    unfold Int32.toNatClampNeg
    rw [ti]
  have hs : mx_step sx_sk (.castore, 1, []) pc (mi_cl ls) [.int (Int32.ofInt v), .int (Int32.ofInt i), .ref 55] h 0 = some (pc + 1, mi_cl ls, [], mx_pa h 55 (Int32.ofInt i).toNatClampNeg (sm_chr (Int32.ofInt v)), [0 ≤ (Int32.ofInt i).toInt ∧ (Int32.ofInt i).toInt < ((160 : Nat) : Int), 0 ≤ (sm_chr (Int32.ofInt v)).toInt ∧ (sm_chr (Int32.ofInt v)).toInt ≤ 65535]) := rfl
  obtain ⟨e1, e2⟩ := mx_step_ok hs hS (fun p hp => by
    simp only [List.mem_cons, List.not_mem_nil, or_false] at hp
    rcases hp with rfl | rfl
    · rw [ti]; omega
    · rw [ev]; omega)
  obtain ⟨f, hf, -⟩ := mx_arr (a := 55) (t := 2) (n := 160) (lo := 0) (hi := 65535) (ex := []) hS rfl (by decide)
  have ep : mx_pa h 55 (Int32.ofInt i).toNatClampNeg (sm_chr (Int32.ofInt v)) = h.set 55 (.inl (2, 160, .inl (upd f (Int32.ofInt i).toNatClampNeg (sm_chr (Int32.ofInt v))))) := by
    unfold mx_pa
    rw [hf]
  refine ab_Ends.step hM hq e1 (K _ e2 (fun j => ?_) ?_)
  · unfold mi_a
    rw [mx_a_pa (mx_Sh_Sp hS) rfl, en]
    by_cases c : j = i.toNat
    · rw [if_pos c, if_pos ⟨rfl, c⟩, ev]
    · rw [if_neg c, if_neg (fun q => c q.2)]
  · show ab_Fr _ h (mx_pa h 55 (Int32.ofInt i).toNatClampNeg (sm_chr (Int32.ofInt v)))
    rw [ep]
    exact ab_Fr_arr hf rfl (by decide)
/-- a character is put at the end -/
theorem me_app54 {zc : Int} (hS : ab_Sh sx_sk h) (hz : tx_alc zc) : me_E d 91 0 [some (.inr (.inr 54)), some (.inl zc), none] [] h (fun w h' => ab_Sh sx_sk h' ∧ ((w = some (.inl 1) ∧ mi_f h 6913 < 160 ∧ mi_f h' 6913 = mi_f h 6913 + 1 ∧ (∀ j, mi_a h' 55 j = if j = (mi_f h 6913).toNat then zc else mi_a h 55 j) ∧ ab_Fr [(6913, 6913 + 1), (7040, 7040 + 1)] h h') ∨ (w = some (.inl 0) ∧ 160 ≤ mi_f h 6913 ∧ h' = h))) := by
  unfold tx_alc at hz
  have oc : mi_in zc := ⟨by omega, by omega⟩
  have t24 : me_E d 91 24 [some (.inr (.inr 54)), some (.inl zc), some (.inl 1)] [] h (fun w h' => ab_Sh sx_sk h' ∧ ((w = some (.inl 1) ∧ mi_f h 6913 < 160 ∧ mi_f h' 6913 = mi_f h 6913 + 1 ∧ (∀ j, mi_a h' 55 j = if j = (mi_f h 6913).toNat then zc else mi_a h 55 j) ∧ ab_Fr [(6913, 6913 + 1), (7040, 7040 + 1)] h h') ∨ (w = some (.inl 0) ∧ 160 ≤ mi_f h 6913 ∧ h' = h))) := by
    refine mt_a54B hS oc ⟨by decide, by decide⟩ (fun q => absurd q (by decide)) (by intros; exfalso; omega) ?_ ?_
    · intro b c1 c2 c3 h1 g1 g2
      have e0 := me_nil g2
      subst e0
      refine me_cast55 (m := 91) (M := (3, 4, sb_91)) rfl rfl g1 (by omega) (by omega) c2 c3 (fun h2 s1 s2 s3 => ?_)
      have e57 : mi_f h2 6913 = mi_f h1 6913 := me_f (c := 6913) s3 g1 rfl rfl
      refine mt_a54C s1 oc ⟨by decide, by decide⟩ (fun b => ⟨by omega, fun h3 t1 t2 t3 => ⟨t1, Or.inl ⟨rfl, c3, by rw [t2, e57], fun j => ?_, (s3.wide (fun c hc => ab_swr_ok (by decide) hc)).trans (t3.wide (fun c hc => ab_swr_ok (by decide) hc))⟩⟩⟩)
      rw [me_a (k := 55) t3 s1 rfl rfl]
      exact s2 j
    · intro b c1 c2 c3 h1 g1 g2
      have e0 := me_nil g2
      subst e0
      exact ⟨g1, Or.inr ⟨rfl, c3, rfl⟩⟩
  refine mt_a54A hS oc ?_ ?_ ?_ ?_ ?_
  · intro c1 c2; exfalso; omega
  · intro c1 c2 h1 g1 g2
    have e0 := me_nil g2
    subst e0
    exact t24
  · intro c1 c2 h1 g1 g2
    have e0 := me_nil g2
    subst e0
    exact t24
  · intro c1 c2 c3; exfalso; omega
  · intro c1 c2 c3; exfalso; omega
theorem me_i2c {m pc : Nat} {M : sm_M} {ls : mi_L} {v : Int} {r : List mi_V} {Q : Option mi_V → sm_H → Prop} (hM : sc_P m = some M) (hq : M.2.2[pc]? = some (some (.i2c, 1, []))) (v0 : 0 ≤ v) (v1 : v ≤ 65535) (K : me_E d m (pc + 1) ls (.inl v :: r) h Q) : me_E d m pc ls (.inl v :: r) h Q := by
  have ov : mi_in v := ⟨by omega, by omega⟩
  have ev : sm_chr (Int32.ofInt v) = Int32.ofInt v := Int32.toInt_inj.mp (by rw [ab_chr_eq, mi_ti ov]; omega)
  have hs : sm_step (.i2c, 1, []) pc (mi_cl ls) (.int (Int32.ofInt v) :: r.map mi_c) h = some (.inl (pc + 1, mi_cl ls, .int (sm_chr (Int32.ofInt v)) :: r.map mi_c, h)) := rfl
  rw [ev] at hs
  exact ab_Ends.step hM hq hs K
theorem i32_ush {z : Int} (h0 : 0 ≤ z) (h1 : z ≤ 1073741823) : ((Int32.ofInt z).toUInt32 >>> ((Int32.ofInt 5).toUInt32 &&& Int32.toUInt32 31)).toInt32.toInt = z / 32 := by
  have oz : mi_in z := ⟨by omega, by omega⟩
  have e5 : ((Int32.ofInt 5).toUInt32 &&& Int32.toUInt32 31).toNat = 5 := by decide
  have ez : (Int32.ofInt z).toUInt32.toNat = z.toNat := by
    have e1 : (Int32.ofInt z).toBitVec.toInt = z := mi_ti oz
    have e3 := BitVec.toInt_eq_toNat_cond (Int32.ofInt z).toBitVec
    have e4 := (Int32.ofInt z).toBitVec.isLt
    show (Int32.ofInt z).toBitVec.toNat = z.toNat
    split at e3 <;> omega
  have em : ((Int32.ofInt z).toUInt32 >>> ((Int32.ofInt 5).toUInt32 &&& Int32.toUInt32 31)).toNat = z.toNat / 32 := by
    rw [UInt32.toNat_shiftRight, ez, e5, Nat.shiftRight_eq_div_pow]
  show ((Int32.ofInt z).toUInt32 >>> ((Int32.ofInt 5).toUInt32 &&& Int32.toUInt32 31)).toBitVec.toInt = _
  have e6 : ((Int32.ofInt z).toUInt32 >>> ((Int32.ofInt 5).toUInt32 &&& Int32.toUInt32 31)).toBitVec.toNat = z.toNat / 32 := em
  rw [BitVec.toInt_eq_toNat_of_lt (by omega), e6]
  omega
theorem me_ush5 {m pc : Nat} {M : sm_M} {ls : mi_L} {v : Int} {Q : Option mi_V → sm_H → Prop} (hM : sc_P m = some M) (hq : M.2.2[pc]? = some (some (.iushr, 1, []))) (v0 : 0 ≤ v) (v1 : v ≤ 1073741823) (K : me_E d m (pc + 1) ls [.inl (v / 32)] h Q) : me_E d m pc ls [.inl 5, .inl v] h Q := by
  have ev : ((Int32.ofInt v).toUInt32 >>> ((Int32.ofInt 5).toUInt32 &&& Int32.toUInt32 31)).toInt32 = Int32.ofInt (v / 32) := Int32.toInt_inj.mp (by rw [i32_ush v0 v1, mi_ti ⟨by omega, by omega⟩])
  have hs : sm_step (.iushr, 1, []) pc (mi_cl ls) [.int (Int32.ofInt 5), .int (Int32.ofInt v)] h = some (.inl (pc + 1, mi_cl ls, [.int ((Int32.ofInt v).toUInt32 >>> ((Int32.ofInt 5).toUInt32 &&& Int32.toUInt32 31)).toInt32], h)) := rfl
  rw [ev] at hs
  exact ab_Ends.step hM hq hs K
end TXD
/-! what the class has printed -/
def oCo (h : sm_H) (o : ox) : Prop := mi_f h 7425 = (o.1.length : Int) ∧ (∀ k : Nat, k < o.1.length → o.1[k]? = some (mi_a h 59 k)) ∧ mi_f h 13834 = o.2.1 ∧ mi_f h 13833 = o.2.2.1 ∧ mi_f h 13832 = o.2.2.2
def oC (h : sm_H) (x : Option ox) : Prop := (x = none ∧ mi_f h 13827 = 1 ∧ mi_f h 13836 = 1 ∧ 160 ≤ mi_f h 7425) ∨ ∃ o, x = some o ∧ mi_f h 13827 = 0 ∧ mi_f h 13836 = 0 ∧ oCo h o
/-- whether a word was before -/
def oCw (h : sm_H) (x : Option ox) : Prop := ∀ o, x = some o → o.1 ≠ [] → (mi_f h 13835 ≠ 0 ↔ wy (olc o.1) = true)
def wr_c3 : List (Nat × Nat) := [(7425, 7426), (7552, 7553), (13827, 13828), (13836, 13837)]
def wr_cs : List (Nat × Nat) := [(7425, 7426), (7552, 7553), (13827, 13828), (13833, 13837)]
section CPR
variable {d : Nat} {h : sm_H} {x : Option ox}
theorem oC_len {o : ox} (hR : oC h (some o)) : mi_f h 13827 = 0 ∧ mi_f h 13836 = 0 ∧ oCo h o := by
  rcases hR with ⟨a, -⟩ | ⟨o', a, b, c⟩
  · cases a
  · injection a with a
    subst a
    exact ⟨b, c⟩
theorem oC_no (hR : oC h none) : mi_f h 13827 = 1 ∧ mi_f h 13836 = 1 ∧ 160 ≤ mi_f h 7425 := by
  rcases hR with ⟨-, a⟩ | ⟨o', a, -⟩
  · exact a
  · cases a
theorem oC_fr {h' : sm_H} {wr : List (Nat × Nat)} (hR : oC h x) (hF : ab_Fr wr h h') (hS : ab_Sh sx_sk h) (hw : (ab_in wr 7425 || ab_in wr 7552 || ab_in wr 13827 || ab_in wr 13832 || ab_in wr 13833 || ab_in wr 13834 || ab_in wr 13836) = false) : oC h' x := by
  simp only [Bool.or_eq_false_iff] at hw
  obtain ⟨⟨⟨⟨⟨⟨w1, w2⟩, w3⟩, w4⟩, w5⟩, w6⟩, w7⟩ := hw
  rcases hR with ⟨a, b, c, c'⟩ | ⟨o, a, b, c, c1, c2, c3, c4, c5⟩
  · exact Or.inl ⟨a, (me_f (c := 13827) hF hS rfl w3).trans b, (me_f (c := 13836) hF hS rfl w7).trans c, by rw [me_f (c := 7425) hF hS rfl w1]; exact c'⟩
  · exact Or.inr ⟨o, a, (me_f (c := 13827) hF hS rfl w3).trans b, (me_f (c := 13836) hF hS rfl w7).trans c, (me_f (c := 7425) hF hS rfl w1).trans c1, fun k hk => by rw [me_a (k := 59) hF hS rfl w2]; exact c2 k hk, (me_f (c := 13834) hF hS rfl w6).trans c3, (me_f (c := 13833) hF hS rfl w5).trans c4, (me_f (c := 13832) hF hS rfl w4).trans c5⟩
/-- what was full stays full -/
theorem ow_full {c : Int} {o : ox} (h : 160 ≤ o.1.length) : owx c o = none := by
  unfold owx ow
  rw [if_pos h]
  rfl
theorem me_wrc {zc : Int} (hS : ab_Sh sx_sk h) (hz : tx_alc zc) (hR : oC h x) : me_E (d + 1) 140 0 [some (.inr (.inr 108)), some (.inl zc)] [] h (fun w h' => w = none ∧ ab_Sh sx_sk h' ∧ ab_Fr wr_c3 h h' ∧ oC h' (x.bind (owx zc))) := by
  have oc : mi_in zc := ⟨by unfold tx_alc at hz; omega, by unfold tx_alc at hz; omega⟩
  refine mt_kowA (d := d) hS oc ?_
  intro h1 g1 g2
  have e := me_nil g2
  subst e
  refine ⟨_, me_app58 g1 hz, fun w h2 hw hq => ?_⟩
  obtain ⟨q1, ⟨rfl, q2, q3, q4, q5⟩ | ⟨rfl, q2, rfl⟩⟩ := hq
  · refine mt_kowB q1 oc ⟨by decide, by decide⟩ ?_ (fun q => absurd q (by decide))
    intro c h3 r1 r2
    have e := me_nil r2
    subst e
    rcases hR with ⟨a, b, c, c'⟩ | ⟨o, a, b, c, c1, c2, c3, c4, c5⟩
    · omega
    · subst a
      have eo : (some o).bind (owx zc) = some (o.1 ++ [zc], o.2) := by
        show owx zc o = _
        unfold owx ow
        rw [if_neg (by omega)]
        rfl
      rw [eo]
      refine ⟨rfl, r1, q5.wide (fun c hc => ab_swr_ok (by decide) hc), Or.inr ⟨_, rfl, (me_f (c := 13827) q5 g1 rfl rfl).trans b, (me_f (c := 13836) q5 g1 rfl rfl).trans c, ?_, fun k hk => ?_, (me_f (c := 13834) q5 g1 rfl rfl).trans c3, (me_f (c := 13833) q5 g1 rfl rfl).trans c4, (me_f (c := 13832) q5 g1 rfl rfl).trans c5⟩⟩
      · rw [q3, c1, List.length_append]
        rfl
      · dsimp only at hk ⊢
        rw [List.length_append] at hk
        have hk : k < o.1.length + 1 := hk
        rw [q4]
        by_cases e : k = o.1.length
        · rw [if_pos (by omega), e, List.getElem?_append_right (Nat.le_refl _), Nat.sub_self]
          rfl
        · rw [if_neg (by omega), List.getElem?_append_left (by omega)]
          exact c2 k (by omega)
  · refine mt_kowB q1 oc ⟨by decide, by decide⟩ (fun q => absurd rfl q) ?_
    intro c h3 r1 r2 r3 r4
    have eo : x.bind (owx zc) = none := by
      rcases hR with ⟨a, -⟩ | ⟨o, a, b, c, c1, -⟩
      · rw [a]
        rfl
      · rw [a]
        exact ow_full (by omega)
    rw [eo]
    exact ⟨rfl, r1, r4.wide (fun c hc => ab_swr_ok (by decide) hc), Or.inl ⟨rfl, r2, r3, by rw [me_f (c := 7425) r4 q1 rfl rfl]; exact q2⟩⟩
end CPR
/-! the class prints tokens: separate, letters, digits -/
section CSH
variable {d : Nat} {h : sm_H} {x : Option ox}
theorem cs91 {zw : Int} {q2 : Option mi_V} (hS : ab_Sh sx_sk h) (w0 : 0 ≤ zw) (w1 : zw ≤ 1) (o2 : ∀ v, q2 = some v → mi_ok v) (hR : oC h x) : me_E (d + 2) 139 91 [some (.inr (.inr 108)), some (.inl zw), q2] [] h (fun w h' => w = none ∧ ab_Sh sx_sk h' ∧ ab_Fr [(13833, 13836)] h h' ∧ oC h' (x.map (fun o => (o.1, 0, 0, o.2.2.2))) ∧ mi_f h' 13835 = zw) := by
  refine mt_kosF hS ⟨by omega, by omega⟩ o2 ?_
  refine ⟨⟨w0, w1⟩, fun h1 g1 g2 g3 g4 g5 => ⟨rfl, g1, g5, ?_, g4⟩⟩
  rcases hR with ⟨rfl, b, c, c'⟩ | ⟨o, rfl, b, c, c1, c2, c3, c4, c5⟩
  · exact Or.inl ⟨rfl, (me_f (c := 13827) g5 hS rfl rfl).trans b, (me_f (c := 13836) g5 hS rfl rfl).trans c, by rw [me_f (c := 7425) g5 hS rfl rfl]; exact c'⟩
  · exact Or.inr ⟨_, rfl, (me_f (c := 13827) g5 hS rfl rfl).trans b, (me_f (c := 13836) g5 hS rfl rfl).trans c, (me_f (c := 7425) g5 hS rfl rfl).trans c1, fun k hk => by rw [me_a (k := 59) g5 hS rfl rfl]; exact c2 k hk, g3, g2, (me_f (c := 13832) g5 hS rfl rfl).trans c5⟩
theorem al10 : tx_alc 10 := Or.inl rfl
theorem al32 : tx_alc 32 := Or.inr ⟨by decide, by decide⟩
theorem cs25 {zw i b l : Int} (w0 : 0 ≤ zw) (w1 : zw ≤ 1) (i0 : 0 ≤ i) (i1 : i ≤ 100000) : ∀ (m : Nat) (zk : Int) (h : sm_H) (z : Option (List Int)), 2 * i - zk = m → 0 ≤ zk → ab_Sh sx_sk h → mi_f h 13832 = i → oC h (z.map (fun C => (C, b, l, i))) → me_E (d + 2) 139 25 [some (.inr (.inr 108)), some (.inl zw), some (.inl zk)] [] h (fun w h' => w = none ∧ ab_Sh sx_sk h' ∧ ab_Fr wr_cs h h' ∧ oC h' ((z.bind (owl (List.replicate m 32))).map (fun C => (C, 0, 0, i))) ∧ mi_f h' 13835 = zw) := by
  have owz : mi_in zw := ⟨by omega, by omega⟩
  intro m
  induction m with
  | zero =>
    intro zk h z hm k0 hS hi hR
    have ok : mi_in zk := ⟨by omega, by omega⟩
    refine mt_kosC hS owz ok ?_ (by intros; exfalso; omega) (by intros; exfalso; omega)
    intro b1 c
    refine ⟨by omega, fun h1 g1 g2 => ?_⟩
    have e := me_nil g2
    subst e
    refine (cs91 g1 w0 w1 (me_oi ok) hR).imp (fun w h' hq => ⟨hq.1, hq.2.1, hq.2.2.1.wide (fun c hc => ab_swr_ok (by decide) hc), ?_, hq.2.2.2.2⟩)
    have := hq.2.2.2.1
    cases z with
    | none => exact this
    | some C => exact this
  | succ m ih =>
    intro zk h z hm k0 hS hi hR
    have ok : mi_in zk := ⟨by omega, by omega⟩
    refine mt_kosC hS owz ok (by intros; exfalso; omega) ?_ ?_
    · intro b1 b2 c c'
      refine ⟨by omega, fun h1 g1 g2 => ?_⟩
      have e := me_nil g2
      subst e
      have hz : z = none := by
        rcases hR with ⟨a, -⟩ | ⟨o, -, a, -⟩
        · cases z with
          | none => rfl
          | some C => cases a
        · exact absurd a c'
      subst hz
      refine (cs91 g1 w0 w1 (me_oi ok) hR).imp (fun w h' hq => ⟨hq.1, hq.2.1, hq.2.2.1.wide (fun c hc => ab_swr_ok (by decide) hc), hq.2.2.2.1, hq.2.2.2.2⟩)
    · intro b1 b2 c c'
      refine ⟨by omega, fun h1 g1 g2 => ?_⟩
      have e := me_nil g2
      subst e
      refine ⟨_, me_wrc (d := d) g1 al32 hR, fun w h2 hw hq => ?_⟩
      obtain ⟨rfl, q1, q2, q3⟩ := hq
      refine mt_kosD q1 owz ok ?_
      refine ⟨by omega, fun h3 r1 r2 => ?_⟩
      have e := me_nil r2
      subst e
      have hz : ∃ C, z = some C := by
        rcases hR with ⟨-, a, -⟩ | ⟨o, a, -⟩
        · exfalso; omega
        · cases z with
          | none => cases a
          | some C => exact ⟨C, rfl⟩
      obtain ⟨C, rfl⟩ := hz
      have e3 : ((some C).map (fun C => ((C, b, l, i) : ox))).bind (owx 32) = (Option.map (fun C => (C, b, l, i)) (ow 32 C)) := rfl
      rw [e3] at q3
      refine (ih (zk + 1) h3 _ (by omega) (by omega) q1 ((me_f (c := 13832) q2 g1 rfl rfl).trans hi) q3).imp (fun w h' hq => ⟨hq.1, hq.2.1, (q2.wide (fun c hc => ab_swr_ok (by decide) hc)).trans hq.2.2.1, hq.2.2.2.1, hq.2.2.2.2⟩)
/-- what is due before a token that begins with zc -/
theorem me_sepc {zw zc : Int} (hS : ab_Sh sx_sk h) (w0 : 0 ≤ zw) (w1 : zw ≤ 1) (hzc : zw ≠ 0 ↔ wy zc = true) (i0 : 0 ≤ mi_f h 13832) (i1 : mi_f h 13832 ≤ 100000) (hR : oC h x) (hW : oCw h x) : me_E (d + 2) 139 0 [some (.inr (.inr 108)), some (.inl zw), none] [] h (fun w h' => w = none ∧ ab_Sh sx_sk h' ∧ ab_Fr wr_cs h h' ∧ oC h' (x.bind (ob zc)) ∧ mi_f h' 13835 = zw) := by
  have owz : mi_in zw := ⟨by omega, by omega⟩
  have f91 : ∀ (h1 : sm_H) (y : Option ox), ab_Sh sx_sk h1 → ab_Fr wr_cs h h1 → oC h1 y → y.map (fun o => ((o.1, 0, 0, o.2.2.2) : ox)) = x.bind (ob zc) → me_E (d + 2) 139 91 [some (.inr (.inr 108)), some (.inl zw), none] [] h1 (fun w h' => w = none ∧ ab_Sh sx_sk h' ∧ ab_Fr wr_cs h h' ∧ oC h' (x.bind (ob zc)) ∧ mi_f h' 13835 = zw) := by
    intro h1 y g1 g2 g3 g4
    refine (cs91 g1 w0 w1 me_on g3).imp (fun w h' hq => ⟨hq.1, hq.2.1, g2.trans (hq.2.2.1.wide (fun c hc => ab_swr_ok (by decide) hc)), ?_, hq.2.2.2.2⟩)
    rw [← g4]
    exact hq.2.2.2.1
  have wr91 : ∀ (h1 : sm_H), h1 = h → (∀ o, x = some o → obw zc o = ow 32 o.1) → ∃ Q1, me_E (d + 1) 140 0 (mi_entry 2 [.inr (.inr 108), .inl ((32 : Int))]) [] h1 Q1 ∧ ∀ w h2, (∀ x, w = some x → mi_ok x) → Q1 w h2 → me_E (d + 2) 139 91 [some (.inr (.inr 108)), some (.inl zw), none] (mi_back w []) h2 (fun w h' => w = none ∧ ab_Sh sx_sk h' ∧ ab_Fr wr_cs h h' ∧ oC h' (x.bind (ob zc)) ∧ mi_f h' 13835 = zw) := by
    intro h1 e hx
    subst e
    refine ⟨_, me_wrc (d := d) hS al32 hR, fun w h2 hw hq => ?_⟩
    obtain ⟨rfl, q1, q2, q3⟩ := hq
    refine f91 h2 _ q1 (q2.wide (fun c hc => ab_swr_ok (by decide) hc)) q3 ?_
    cases x with
    | none => rfl
    | some o =>
      show (owx 32 o).map _ = ob zc o
      unfold owx ob
      rw [hx o rfl]
      cases ow 32 o.1 with
      | none => rfl
      | some C => rfl
  have no91 : (∀ o, x = some o → obw zc o = some o.1) → ∀ h1, ab_Sh sx_sk h1 → ab_Fr [] h h1 → me_E (d + 2) 139 91 [some (.inr (.inr 108)), some (.inl zw), none] [] h1 (fun w h' => w = none ∧ ab_Sh sx_sk h' ∧ ab_Fr wr_cs h h' ∧ oC h' (x.bind (ob zc)) ∧ mi_f h' 13835 = zw) := by
    intro hx h1 g1 g2
    have e := me_nil g2
    subst e
    refine f91 h1 x g1 ab_Fr.refl hR ?_
    cases x with
    | none => rfl
    | some o =>
      show _ = ob zc o
      unfold ob
      rw [hx o rfl]
      rfl
  have f57 : (∀ o, x = some o → ¬ (o.1 ≠ [] ∧ o.2.2.1 ≠ 0)) → ∀ h1, ab_Sh sx_sk h1 → ab_Fr [] h h1 → me_E (d + 2) 139 57 [some (.inr (.inr 108)), some (.inl zw), none] [] h1 (fun w h' => w = none ∧ ab_Sh sx_sk h' ∧ ab_Fr wr_cs h h' ∧ oC h' (x.bind (ob zc)) ∧ mi_f h' 13835 = zw) := by
    intro hx h1 g1 g2
    have e := me_nil g2
    subst e
    have ne : ∀ o, x = some o → 0 < mi_f h1 7425 → o.1 ≠ [] ∧ o.2.1 = mi_f h1 13834 ∧ (mi_f h1 13835 ≠ 0 ↔ wy (olc o.1) = true) := fun o ho hp => by
      subst ho
      obtain ⟨-, -, c1, -, c3, -⟩ := oC_len hR
      have e0 : o.1 ≠ [] := fun q => by rw [q] at c1; have : (([] : List Int).length : Int) = 0 := rfl; omega
      exact ⟨e0, c3.symm, hW o rfl e0⟩
    refine mt_kosE g1 owz ?_ ?_ ?_ ?_ ?_
    · intro b c
      refine no91 (fun o ho => ?_)
      subst ho
      obtain ⟨-, -, c1, -⟩ := oC_len hR
      have e0 : o.1 = [] := List.length_eq_zero_iff.mp (by omega)
      unfold obw
      rw [if_neg (hx o rfl), if_neg (fun q => q.1 e0)]
    · intro b b2 c c2 h2 r1 r2
      have e := me_nil r2
      subst e
      refine wr91 _ rfl (fun o ho => ?_)
      obtain ⟨k1, k2, k3⟩ := ne o ho c
      unfold obw
      rw [if_neg (hx o ho), if_pos ⟨k1, Or.inl (by rw [k2]; exact c2)⟩]
    · intro b b2 b3 c c2 c3
      refine no91 (fun o ho => ?_)
      obtain ⟨k1, k2, k3⟩ := ne o ho c
      unfold obw
      rw [if_neg (hx o ho), if_neg (fun q => by
        rcases q.2 with q | q
        · exact q (by rw [k2]; exact c2)
        · exact (k3.mpr q.1) c3)]
    · intro b b2 b3 c c2 c3 c4
      refine no91 (fun o ho => ?_)
      obtain ⟨k1, k2, k3⟩ := ne o ho c
      unfold obw
      rw [if_neg (hx o ho), if_neg (fun q => by
        rcases q.2 with q | q
        · exact q (by rw [k2]; exact c2)
        · exact (hzc.mpr q.2) c4)]
    · intro b b2 b3 c c2 c3 c4 h2 r1 r2
      have e := me_nil r2
      subst e
      refine wr91 _ rfl (fun o ho => ?_)
      obtain ⟨k1, k2, k3⟩ := ne o ho c
      unfold obw
      rw [if_neg (hx o ho), if_pos ⟨k1, Or.inr ⟨k3.mp c3, hzc.mp c4⟩⟩]
  refine mt_kosA hS owz ?_ ?_ ?_
  · intro b c
    refine f57 (fun o ho q => ?_)
    subst ho
    obtain ⟨-, -, c1, -⟩ := oC_len hR
    exact q.1 (List.length_eq_zero_iff.mp (by omega))
  · intro b b2 c c2
    refine f57 (fun o ho q => ?_)
    subst ho
    obtain ⟨-, -, -, -, -, c4, -⟩ := oC_len hR
    exact q.2 (by rw [← c4]; exact c2)
  · intro b b2 c c2 h1 g1 g2
    have e := me_nil g2
    subst e
    refine ⟨_, me_wrc (d := d) g1 al10 hR, fun w h2 hw hq => ?_⟩
    obtain ⟨rfl, q1, q2, q3⟩ := hq
    refine mt_kosB q1 owz ?_
    intro h3 r1 r2
    have e := me_nil r2
    subst e
    have f32 : mi_f h3 13832 = mi_f h1 13832 := me_f (c := 13832) q2 g1 rfl rfl
    have key : ∀ (z : Option (List Int)) (b l : Int), oC h3 (z.map (fun C => (C, b, l, mi_f h1 13832))) → (z.bind (owl (List.replicate (2 * mi_f h1 13832).toNat 32))).map (fun C => ((C, 0, 0, mi_f h1 13832) : ox)) = x.bind (ob zc) → me_E (d + 2) 139 25 [some (.inr (.inr 108)), some (.inl zw), some (.inl 0)] [] h3 (fun w h' => w = none ∧ ab_Sh sx_sk h' ∧ ab_Fr wr_cs h1 h' ∧ oC h' (x.bind (ob zc)) ∧ mi_f h' 13835 = zw) := by
      intro z b l hz he
      refine (cs25 (i := mi_f h1 13832) (b := b) (l := l) w0 w1 i0 i1 (2 * mi_f h1 13832).toNat 0 h3 z (by omega) (by decide) r1 f32 hz).imp (fun w h' hq => ⟨hq.1, hq.2.1, (q2.wide (fun c hc => ab_swr_ok (by decide) hc)).trans hq.2.2.1, ?_, hq.2.2.2.2⟩)
      rw [← he]
      exact hq.2.2.2.1
    cases x with
    | none => exact key none 0 0 q3 rfl
    | some o =>
      obtain ⟨-, -, c1, -, -, c4, c5⟩ := oC_len hR
      have e0 : o.1 ≠ [] := fun q => by rw [q] at c1; have : (([] : List Int).length : Int) = 0 := rfl; omega
      have e3 : (some o).bind (owx 10) = (ow 10 o.1).map (fun C => (C, o.2.1, o.2.2.1, mi_f h1 13832)) := by
        show owx 10 o = _
        unfold owx
        rw [c5]
      rw [e3] at q3
      refine key _ o.2.1 o.2.2.1 q3 ?_
      show _ = ob zc o
      unfold ob obw
      rw [if_pos ⟨e0, by rw [← c4]; exact c2⟩, c5]
end CSH
/-! the class prints tokens: letters, digits, signs -/
/-- at most n letters -/
def lgd : Nat → Int → Prop
  | 0, v => v = 0
  | n + 1, v => v = 0 ∨ (1 ≤ v % 32 ∧ v % 32 ≤ 26 ∧ lgd n (v / 32))
theorem owl_e : ∀ (W C C' : List Int), owl W C = some C' → C' = C ++ W := by
  intro W
  induction W with
  | nil => intro C C' h; injection h with h; rw [← h, List.append_nil]
  | cons c W ih =>
    intro C C' h
    obtain ⟨D, h1, h2⟩ := Option.bind_eq_some_iff.mp h
    unfold ow at h1
    split at h1
    · cases h1
    · injection h1 with h1
      subst h1
      rw [ih _ _ h2, List.append_assoc]
      rfl
/-- behind a token: what it ended with -/
theorem oCw_tok {h' : sm_H} {x : Option ox} {W : List Int} {zw : Int} (hW : W ≠ []) (hc : ∀ c ∈ W, (zw ≠ 0 ↔ wy c = true)) (h5 : mi_f h' 13835 = zw) : oCw h' (x.bind (otk W)) := by
  intro o ho _
  obtain ⟨o0, -, h1⟩ := Option.bind_eq_some_iff.mp ho
  unfold otk at h1
  obtain ⟨o1, h2, h3⟩ := Option.bind_eq_some_iff.mp h1
  unfold owlx at h3
  obtain ⟨C, h4, h6⟩ := Option.map_eq_some_iff.mp h3
  have e := owl_e _ _ _ h4
  rw [← h6]
  dsimp only
  rw [e, h5]
  have : olc (o1.1 ++ W) = W.getLast hW := by
    unfold olc
    rw [List.getLast?_append, List.getLast?_eq_some_getLast hW]
    rfl
  rw [this]
  exact hc _ (List.getLast_mem hW)
theorem lgd_0 : ∀ n : Nat, lgd n 0 := by
  intro n
  cases n with
  | zero => rfl
  | succ n => exact Or.inl rfl
theorem ltf_le : ∀ (n : Nat) (v : Int), lgd n v → ∀ m, n ≤ m → ltf m v = ltf n v := by
  intro n
  induction n with
  | zero =>
    intro v h m _
    have h : v = 0 := h
    subst h
    cases m with
    | zero => rfl
    | succ m =>
      have e : ltf (m + 1) 0 = [] := by rw [ltf, if_neg (by decide)]
      exact e
  | succ n ih =>
    intro v h m hm
    obtain ⟨m, rfl⟩ : ∃ k, m = k + 1 := ⟨m - 1, by omega⟩
    rw [ltf, ltf]
    by_cases c : 0 < v
    · rw [if_pos c, if_pos c]
      rcases h with h | ⟨-, -, h⟩
      · omega
      · rw [ih _ h m (by omega)]
    · rw [if_neg c, if_neg c]
theorem ltf_wy : ∀ (n : Nat) (v : Int), lgd n v → ∀ c ∈ ltf n v, wy c = true ∧ tx_alc c := by
  intro n
  induction n with
  | zero => intro v _ c hc; cases hc
  | succ n ih =>
    intro v h c hc
    rw [ltf] at hc
    by_cases cv : 0 < v
    · rw [if_pos cv] at hc
      rcases h with h | ⟨h1, h2, h3⟩
      · omega
      · rcases List.mem_cons.mp hc with rfl | hc
        · refine ⟨?_, Or.inr ⟨by omega, by omega⟩⟩
          unfold wy
          rw [decide_eq_true_eq]
          omega
        · exact ih _ h3 c hc
    · rw [if_neg cv] at hc
      cases hc
theorem lgd_b : ∀ (n : Nat) (v : Int), 0 ≤ v → lgd n v → v < 32 ^ n := by
  intro n
  induction n with
  | zero => intro v _ h; have h : v = 0 := h; subst h; decide
  | succ n ih =>
    intro v h0 h
    have e : (32 : Int) ^ (n + 1) = 32 ^ n * 32 := Int.pow_succ _ _
    have p : (0 : Int) < 32 ^ n := Int.pow_pos (by decide)
    rcases h with h | ⟨-, -, h⟩
    · omega
    · have := ih (v / 32) (by omega) h
      omega
theorem i32_and31 {z : Int} (h0 : 0 ≤ z) (h1 : z ≤ 1073741823) : (Int32.ofInt z &&& Int32.ofInt ((31 : Int))).toInt = z % 32 := by
  have oz : mi_in z := ⟨by omega, by omega⟩
  have ez : (Int32.ofInt z).toBitVec.toNat = z.toNat := by
    have e1 : (Int32.ofInt z).toBitVec.toInt = z := mi_ti oz
    have e3 := BitVec.toInt_eq_toNat_cond (Int32.ofInt z).toBitVec
    have e4 := (Int32.ofInt z).toBitVec.isLt
    split at e3 <;> omega
  have e31 : (Int32.ofInt ((31 : Int))).toBitVec.toNat = 31 := by decide
  have main : (Int32.ofInt z &&& Int32.ofInt ((31 : Int))).toBitVec.toNat = z.toNat % 32 := by
    rw [Int32.toBitVec_and, BitVec.toNat_and, e31, ez]
    exact Nat.and_two_pow_sub_one_eq_mod _ 5
  show (Int32.ofInt z &&& Int32.ofInt ((31 : Int))).toBitVec.toInt = _
  rw [BitVec.toInt_eq_toNat_of_lt (by rw [main]; omega), main]
  omega
section CTK
variable {d : Nat} {h : sm_H} {x : Option ox}
theorem cc32 {zc : Int} (oc : mi_in zc) : ∀ (n : Nat) (zr zk : Int) (h : sm_H) (x : Option ox), 6 - zk = n → 0 ≤ zk → 0 ≤ zr → zr ≤ 1073741823 → lgd n zr → ab_Sh sx_sk h → oC h x → me_E (d + 3) 141 32 [some (.inr (.inr 108)), some (.inl zc), some (.inl zr), some (.inl zk)] [] h (fun w h' => w = none ∧ ab_Sh sx_sk h' ∧ ab_Fr wr_c3 h h' ∧ oC h' (x.bind (owlx (ltf n zr)))) := by
  intro n
  induction n with
  | zero =>
    intro zr zk h x hn k0 r0 r1 hl hS hR
    refine mt_kocD hS oc ⟨by omega, by omega⟩ ⟨by omega, by omega⟩ ?_ (by intros; exfalso; omega) (by intros; exfalso; omega)
    intro c h1 g1 g2
    have e := me_nil g2
    subst e
    exact ⟨rfl, g1, ab_Fr.refl, by rw [show ltf 0 zr = [] from rfl, onil]; exact hR⟩
  | succ n ih =>
    intro zr zk h x hn k0 r0 r1 hl hS hR
    have oR' : mi_in zr := ⟨by omega, by omega⟩
    have ok : mi_in zk := ⟨by omega, by omega⟩
    refine mt_kocD hS oc oR' ok (by intros; exfalso; omega) ?_ ?_
    · intro c c2 h1 g1 g2
      have e := me_nil g2
      subst e
      refine ⟨rfl, g1, ab_Fr.refl, ?_⟩
      rw [ltf, if_neg (by omega), onil]
      exact hR
    · intro c c2
      rw [i32_and31 r0 r1]
      refine ⟨by omega, fun h1 g1 g2 => ?_⟩
      have e := me_nil g2
      subst e
      rcases hl with hl | ⟨l1, l2, l3⟩
      · exact absurd hl c2
      refine me_i2c (m := 141) (M := (4, 0, sb_141)) rfl rfl (by omega) (by omega) ?_
      refine mt_kocG g1 oc oR' ok ⟨by omega, by omega⟩ ?_
      intro h2 r2 r3
      have e := me_nil r3
      subst e
      refine ⟨_, me_wrc (d := d + 1) r2 (show tx_alc (96 + zr % 32) from Or.inr ⟨by omega, by omega⟩) hR, fun w h3 hw hq => ?_⟩
      obtain ⟨rfl, q1, q2, q3⟩ := hq
      refine mt_kocE q1 oc oR' ok ?_
      intro h4 s1 s2
      have e := me_nil s2
      subst e
      refine me_ush5 (m := 141) (M := (4, 0, sb_141)) rfl rfl r0 r1 ?_
      refine mt_kocH s1 oc oR' ok ⟨by omega, by omega⟩ ?_
      refine ⟨by omega, fun h5 t1 t2 => ?_⟩
      have e := me_nil t2
      subst e
      refine (ih (zr / 32) (zk + 1) h5 _ (by omega) (by omega) (by omega) (by omega) l3 t1 q3).imp (fun w h' hq => ⟨hq.1, hq.2.1, q2.trans hq.2.2.1, ?_⟩)
      have := hq.2.2.2
      rw [obind] at this
      rw [ltf, if_pos (by omega), Int.add_comm]
      exact this
/-- a name, a keyword, a sign -/
theorem me_codec {zc : Int} (hS : ab_Sh sx_sk h) (hz : (0 < zc ∧ lgd 6 zc) ∨ (zc < 0 ∧ tx_alc (-zc) ∧ wy (-zc) = false)) (i0 : 0 ≤ mi_f h 13832) (i1 : mi_f h 13832 ≤ 100000) (hR : oC h x) (hW : oCw h x) : me_E (d + 3) 141 0 [some (.inr (.inr 108)), some (.inl zc), none, none] [] h (fun w h' => w = none ∧ ab_Sh sx_sk h' ∧ ab_Fr wr_cs h h' ∧ oC h' (x.bind (otk (if 0 < zc then lts zc else [-zc]))) ∧ oCw h' (x.bind (otk (if 0 < zc then lts zc else [-zc])))) := by
  have e6 : (32 : Int) ^ 6 = 1073741824 := by decide
  have ub : zc ≤ 1073741823 := by
    rcases hz with ⟨z0, z1⟩ | ⟨z0, -⟩
    · have := lgd_b 6 zc (by omega) z1
      omega
    · omega
  have lb : -200 ≤ zc := by
    rcases hz with ⟨z0, z1⟩ | ⟨z0, z1, -⟩
    · omega
    · unfold tx_alc at z1
      omega
  have oc : mi_in zc := ⟨by omega, by omega⟩
  refine mt_kocA hS oc ?_ ?_
  · -- a sign
    intro c h1 g1 g2
    have e := me_nil g2
    subst e
    obtain ⟨z0, z1, z2⟩ := hz.resolve_left (fun q => by omega)
    refine ⟨_, me_sepc (d := d) (zw := 0) (zc := -zc) g1 (by decide) (by decide) ⟨fun q => absurd rfl q, fun q => by rw [z2] at q; cases q⟩ i0 i1 hR hW, fun w h2 hw hq => ?_⟩
    obtain ⟨rfl, q1, q2, q3, q4⟩ := hq
    refine mt_kocB q1 oc (by intros; exfalso; omega) ?_
    intro c2
    refine ⟨by omega, fun h3 r1 r2 => ?_⟩
    have e := me_nil r2
    subst e
    have z3 := z1
    unfold tx_alc at z3
    refine me_i2c (m := 141) (M := (4, 0, sb_141)) rfl rfl (by omega) (by omega) ?_
    refine mt_kocF r1 oc ⟨by omega, by omega⟩ ?_
    intro h4 s1 s2
    have e := me_nil s2
    subst e
    refine ⟨_, me_wrc (d := d + 1) s1 z1 q3, fun w h5 hw5 hq => ?_⟩
    obtain ⟨rfl, t1, t2, t3⟩ := hq
    refine mt_kocC t1 oc ?_ (by intros; exfalso; omega)
    intro c3 h6 l1 l2
    have e := me_nil l2
    subst e
    have F6 : ab_Fr wr_cs h1 h6 := q2.trans (t2.wide (fun c hc => ab_swr_ok (by decide) hc))
    have eo : (x.bind (ob (-zc))).bind (owx (-zc)) = x.bind (otk [-zc]) := by
      rw [← onil (x := (x.bind _).bind _), obind]
      cases x with
      | none => rfl
      | some o => rfl
    rw [eo] at t3
    rw [if_neg (by omega)]
    refine (cc32 (d := d) oc 6 0 0 h6 _ (by decide) (by decide) (by decide) (by decide) (lgd_0 6) l1 t3).imp (fun w h' hq => ⟨hq.1, hq.2.1, F6.trans (hq.2.2.1.wide (fun c hc => ab_swr_ok (by decide) hc)), ?_, ?_⟩)
    · have := hq.2.2.2
      rw [show ltf 6 0 = [] from rfl, onil] at this
      exact this
    · refine oCw_tok (zw := 0) (by simp) (fun c hc => ?_) ?_
      · rw [List.mem_singleton.mp hc, z2]
        exact ⟨fun q => absurd rfl q, fun q => by cases q⟩
      · rw [me_f (c := 13835) hq.2.2.1 l1 rfl rfl, me_f (c := 13835) t2 s1 rfl rfl]
        exact q4
  · -- letters
    intro c h1 g1 g2
    have e := me_nil g2
    subst e
    obtain ⟨z0, z1⟩ := hz.resolve_right (fun q => by omega)
    have hl : lts zc = ltf 6 zc := ltf_le 6 zc z1 7 (by decide)
    have hwy := ltf_wy 6 zc z1
    have e1 : ltf 6 zc = (zc % 32 + 96) :: ltf 5 (zc / 32) := by rw [ltf, if_pos z0]
    refine ⟨_, me_sepc (d := d) (zw := 1) (zc := zc % 32 + 96) g1 (by decide) (by decide) ⟨fun _ => (hwy _ (by rw [e1]; exact List.mem_cons_self)).1, fun _ => by decide⟩ i0 i1 hR hW, fun w h2 hw hq => ?_⟩
    obtain ⟨rfl, q1, q2, q3, q4⟩ := hq
    refine mt_kocB q1 oc ?_ (by intros; exfalso; omega)
    intro c2 h3 r1 r2
    have e := me_nil r2
    subst e
    refine mt_kocC r1 oc (by intros; exfalso; omega) ?_
    intro c3 h6 l1 l2
    have e := me_nil l2
    subst e
    rw [if_pos z0]
    refine (cc32 (d := d) oc 6 zc 0 h6 _ (by decide) (by decide) (by omega) ub z1 l1 q3).imp (fun w h' hq => ⟨hq.1, hq.2.1, q2.trans (hq.2.2.1.wide (fun c hc => ab_swr_ok (by decide) hc)), ?_, ?_⟩)
    · have := hq.2.2.2
      have eo : (x.bind (ob (zc % 32 + 96))).bind (owlx (ltf 6 zc)) = x.bind (otk (lts zc)) := by
        cases x with
        | none => rfl
        | some o =>
          show (ob (zc % 32 + 96) o).bind _ = otk (lts zc) o
          unfold otk
          rw [hl, e1]
          rfl
      rw [eo] at this
      exact this
    · refine oCw_tok (zw := 1) (by rw [hl, e1]; simp) (fun c hc => ?_) ?_
      · rw [hl] at hc
        exact ⟨fun _ => (hwy c hc).1, fun _ => by decide⟩
      · rw [me_f (c := 13835) hq.2.2.1 l1 rfl rfl]
        exact q4
/-- the digits, from a scale on -/
def cdg (n : Int) : Nat → Int → List Int
  | 0, _ => []
  | k + 1, s => if s ≤ n ∨ s = 1 then (48 + n / s % 10) :: cdg n k (s / 10) else cdg n k (s / 10)
theorem cdg_e {n : Int} (h0 : 0 ≤ n) (h1 : n ≤ 9999) : cdg n 4 1000 = dgs n := by
  have d1 : (1000 : Int) / 10 = 100 := by decide
  have d2 : (100 : Int) / 10 = 10 := by decide
  have d3 : (10 : Int) / 10 = 1 := by decide
  have d4 : (1 : Int) / 10 = 0 := by decide
  have p0 : ¬ (0 : Int) < 0 := by decide
  have f1 : dgf n 2 1 = [48 + n / 1 % 10] := by
    rw [dgf, if_pos (by decide), d4, dgf, if_neg p0]
  have f2 : dgf n 3 10 = (48 + n / 10 % 10) :: dgf n 2 1 := by
    rw [dgf, if_pos (by decide), d3]
  have f3 : dgf n 4 100 = (48 + n / 100 % 10) :: dgf n 3 10 := by
    rw [dgf, if_pos (by decide), d2]
  have z1 : ∀ k : Nat, dgf n (k + 2) 1 = [48 + n / 1 % 10] := fun k => by
    rw [dgf, if_pos (by decide), d4, dgf, if_neg p0]
  have z2 : ∀ k : Nat, dgf n (k + 3) 10 = (48 + n / 10 % 10) :: dgf n (k + 2) 1 := fun k => by
    rw [dgf, if_pos (by decide), d3]
  have z3 : ∀ k : Nat, dgf n (k + 4) 100 = (48 + n / 100 % 10) :: dgf n (k + 3) 10 := fun k => by
    rw [dgf, if_pos (by decide), d2]
  have z4 : ∀ k : Nat, dgf n (k + 5) 1000 = (48 + n / 1000 % 10) :: dgf n (k + 4) 100 := fun k => by
    rw [dgf, if_pos (by decide), d1]
  have c1 : cdg n 1 1 = [48 + n / 1 % 10] := by
    rw [cdg, if_pos (Or.inr rfl)]
    rfl
  have c2 : cdg n 2 10 = if 10 ≤ n ∨ (10 : Int) = 1 then (48 + n / 10 % 10) :: cdg n 1 1 else cdg n 1 1 := by rw [cdg, d3]
  have c3 : cdg n 3 100 = if 100 ≤ n ∨ (100 : Int) = 1 then (48 + n / 100 % 10) :: cdg n 2 10 else cdg n 2 10 := by rw [cdg, d2]
  have c4 : cdg n 4 1000 = if 1000 ≤ n ∨ (1000 : Int) = 1 then (48 + n / 1000 % 10) :: cdg n 3 100 else cdg n 3 100 := by rw [cdg, d1]
  unfold dgs dgu
  by_cases g1 : 999 < n
  · rw [if_pos g1, z4 0, z3 0, z2 0, z1 0, c4, if_pos (by omega), c3, if_pos (by omega), c2, if_pos (by omega), c1]
  · rw [if_neg g1, c4, if_neg (by omega), c3]
    by_cases g2 : 99 < n
    · rw [if_pos g2, z3 1, z2 1, z1 1, if_pos (by omega), c2, if_pos (by omega), c1]
    · rw [if_neg g2, if_neg (by omega), c2]
      by_cases g3 : 9 < n
      · rw [if_pos g3, z2 2, z1 2, if_pos (by omega), c1]
      · rw [if_neg g3, if_neg (by omega), z1 3, c1]
theorem cn9 {zn : Int} (n0 : 0 ≤ zn) (n1 : zn ≤ 9999) : ∀ (k : Nat) (zs : Int) (h : sm_H) (x : Option ox), ((k = 0 ∧ zs = 0) ∨ (k = 1 ∧ zs = 1) ∨ (k = 2 ∧ zs = 10) ∨ (k = 3 ∧ zs = 100) ∨ (k = 4 ∧ zs = 1000)) → ab_Sh sx_sk h → oC h x → me_E (d + 3) 138 9 [some (.inr (.inr 108)), some (.inl zn), some (.inl zs)] [] h (fun w h' => w = none ∧ ab_Sh sx_sk h' ∧ ab_Fr wr_c3 h h' ∧ oC h' (x.bind (owlx (cdg zn k zs)))) := by
  have on : mi_in zn := ⟨by omega, by omega⟩
  intro k
  induction k with
  | zero =>
    intro zs h x hk hS hR
    refine mt_konC hS on ⟨by omega, by omega⟩ ?_ (by intros; exfalso; omega) (by intros; exfalso; omega) (by intros; exfalso; omega)
    intro c h1 g1 g2
    have e := me_nil g2
    subst e
    exact ⟨rfl, g1, ab_Fr.refl, by rw [show cdg zn 0 zs = [] from rfl, onil]; exact hR⟩
  | succ k ih =>
    intro zs h x hk hS hR
    have os : mi_in zs := ⟨by omega, by omega⟩
    have s0 : 0 < zs := by omega
    have s1 : zs ≤ 1000 := by omega
    have dn : 0 ≤ zn / zs := Int.ediv_nonneg n0 (by omega)
    have dl : zn / zs ≤ zn := Int.ediv_le_self _ n0
    -- on to the next scale
    have nx : ∀ (h1 : sm_H) (y : Option ox), ab_Sh sx_sk h1 → ab_Fr wr_c3 h h1 → oC h1 y → me_E (d + 3) 138 37 [some (.inr (.inr 108)), some (.inl zn), some (.inl zs)] [] h1 (fun w h' => w = none ∧ ab_Sh sx_sk h' ∧ ab_Fr wr_c3 h h' ∧ oC h' (y.bind (owlx (cdg zn k (zs / 10))))) := by
      intro h1 y g1 g2 g3
      refine mt_konD g1 on os ?_
      intro h2 r1 r2
      have e := me_nil r2
      subst e
      rw [sh_div zs (by omega) (by omega)]
      exact (ih (zs / 10) h2 y (by omega) r1 g3).imp (fun w h' hq => ⟨hq.1, hq.2.1, g2.trans hq.2.2.1, hq.2.2.2⟩)
    -- a digit
    have dg : (zs ≤ zn ∨ zs = 1) → ∀ h1, ab_Sh sx_sk h1 → ab_Fr [] h h1 → me_E (d + 3) 138 33 [some (.inr (.inr 108)), some (.inl zn), some (.inl zs)] [.inl (48 + zn / zs % 10), .inr (.inr 108)] h1 (fun w h' => w = none ∧ ab_Sh sx_sk h' ∧ ab_Fr wr_c3 h h' ∧ oC h' (x.bind (owlx (cdg zn (k + 1) zs)))) := by
      intro hc h1 g1 g2
      have e := me_nil g2
      subst e
      refine me_i2c (m := 138) (M := (3, 0, sb_138)) rfl rfl (by omega) (by omega) ?_
      refine mt_konE g1 on os ⟨by omega, by omega⟩ ?_
      intro h2 r1 r2
      have e := me_nil r2
      subst e
      refine ⟨_, me_wrc (d := d + 1) r1 (show tx_alc (48 + zn / zs % 10) from Or.inr ⟨by omega, by omega⟩) hR, fun w h3 hw hq => ?_⟩
      obtain ⟨rfl, q1, q2, q3⟩ := hq
      refine (nx h3 _ q1 q2 q3).imp (fun w h' hq => ⟨hq.1, hq.2.1, hq.2.2.1, ?_⟩)
      have := hq.2.2.2
      rw [obind] at this
      rw [cdg, if_pos hc]
      exact this
    refine mt_konC hS on os (by intros; exfalso; omega) ?_ ?_ ?_
    · intro c c2
      rw [sh_divg n0 (by omega) s0 (by omega), sh_modg dn (by omega)]
      exact ⟨by omega, dg (Or.inl c2)⟩
    · intro c c2 c3 h1 g1 g2
      have e := me_nil g2
      subst e
      refine (nx h1 x g1 ab_Fr.refl hR).imp (fun w h' hq => ⟨hq.1, hq.2.1, hq.2.2.1, ?_⟩)
      rw [cdg, if_neg (by omega)]
      exact hq.2.2.2
    · intro c c2 c3
      rw [sh_divg n0 (by omega) s0 (by omega), sh_modg dn (by omega)]
      exact ⟨by omega, dg (Or.inr c3)⟩
theorem dgf_wy {n : Int} : ∀ (k : Nat) (e : Int), ∀ c ∈ dgf n k e, wy c = true := by
  intro k
  induction k with
  | zero => intro e c hc; cases hc
  | succ k ih =>
    intro e c hc
    rw [dgf] at hc
    split at hc
    · rcases List.mem_cons.mp hc with rfl | hc
      · unfold wy
        rw [decide_eq_true_eq]
        omega
      · exact ih _ c hc
    · cases hc
theorem me_numc {zn : Int} (hS : ab_Sh sx_sk h) (n0 : 0 ≤ zn) (n1 : zn ≤ 9999) (i0 : 0 ≤ mi_f h 13832) (i1 : mi_f h 13832 ≤ 100000) (hR : oC h x) (hW : oCw h x) : me_E (d + 3) 138 0 [some (.inr (.inr 108)), some (.inl zn), none] [] h (fun w h' => w = none ∧ ab_Sh sx_sk h' ∧ ab_Fr wr_cs h h' ∧ oC h' (x.bind (otk (dgs zn))) ∧ oCw h' (x.bind (otk (dgs zn)))) := by
  have on : mi_in zn := ⟨by omega, by omega⟩
  have hne : dgs zn = (48 + zn / dgu zn % 10) :: dgf zn 4 (dgu zn / 10) := by
    unfold dgs
    rw [dgf, if_pos (by unfold dgu; split <;> (try split) <;> (try split) <;> decide)]
  have hwy : ∀ c ∈ dgs zn, wy c = true := dgf_wy 5 (dgu zn)
  refine mt_konA hS on ?_
  intro h1 g1 g2
  have e := me_nil g2
  subst e
  refine ⟨_, me_sepc (d := d) (zw := 1) (zc := 48 + zn / dgu zn % 10) g1 (by decide) (by decide) ⟨fun _ => hwy _ (by rw [hne]; exact List.mem_cons_self), fun _ => by decide⟩ i0 i1 hR hW, fun w h2 hw hq => ?_⟩
  obtain ⟨rfl, q1, q2, q3, q4⟩ := hq
  refine mt_konB q1 on ?_
  intro h3 r1 r2
  have e := me_nil r2
  subst e
  refine (cn9 (d := d) n0 n1 4 1000 h3 _ (by omega) r1 q3).imp (fun w h' hq => ⟨hq.1, hq.2.1, q2.trans (hq.2.2.1.wide (fun c hc => ab_swr_ok (by decide) hc)), ?_, ?_⟩)
  · have := hq.2.2.2
    rw [cdg_e n0 n1] at this
    have eo : (x.bind (ob (48 + zn / dgu zn % 10))).bind (owlx (dgs zn)) = x.bind (otk (dgs zn)) := by
      cases x with
      | none => rfl
      | some o =>
        show (ob (48 + zn / dgu zn % 10) o).bind _ = otk (dgs zn) o
        unfold otk
        rw [hne]
        rfl
    rw [eo] at this
    exact this
  · refine oCw_tok (zw := 1) (by rw [hne]; simp) (fun c hc => ⟨fun _ => hwy c hc, fun _ => by decide⟩) ?_
    rw [me_f (c := 13835) hq.2.2.1 r1 rfl rfl]
    exact q4
end CTK
/-! runs of the replay, taken apart; what they append; how many of it stand on top -/
def rn (g : wk_g) (V : Int → Int) (n : Nat) (u : Int) (E : List wk_E) (s s' : gm_S) (L : List (Int × Int)) : Prop := pe_to (dm_st g V u) (dv g V) n (E, s) ([], s') L
/-- a node is left -/
def gm_cl (s : gm_S) : gm_S := (gm_X s, gm_F s, gm_T s, gm_D s - 1, gm_P s)
/-- what a part once does -/
def sgr (g : wk_g) (V : Int → Int) (n : Nat) (u p : Int) (s s' : gm_S) (L : List (Int × Int)) : Prop := ∃ B s1 L1, dm_sg u g V p [] s = some (B, s1) ∧ rn g V n u B s1 s' L1 ∧ L = dv_lf g V p (gm_len s) ++ L1
section RN0
variable {g : wk_g} {V : Int → Int} {n : Nat} {u : Int} {s s' : gm_S} {L : List (Int × Int)}
theorem rn_nil (h : rn g V n u [] s s' L) : s' = s ∧ L = [] := by
  cases n with
  | zero =>
    obtain ⟨h1, h2⟩ := h
    exact ⟨(Prod.mk.inj h1).2.symm, h2⟩
  | succ n =>
    obtain ⟨e, r, c1, L1, h1, -⟩ := h
    cases h1
theorem rn_split {A q : List wk_E} (h : rn g V n u (A ++ q) s s' L) : ∃ n1 n2 s1 L1 L2, n1 ≤ n ∧ n2 ≤ n ∧ rn g V n1 (u + wk_ul q) A s s1 L1 ∧ rn g V n2 u q s1 s' L2 ∧ L = L1 ++ L2 := by
  obtain ⟨n1, s1, L1, L2, h1, h2, h3, h4⟩ := pe_split0 dm_loc n A s L h
  exact ⟨n1, n - n1, s1, L1, L2, h1, Nat.sub_le _ _, h2, h3, h4⟩
theorem rn_cons {e : wk_E} {E : List wk_E} (h : rn g V n u (e :: E) s s' L) : ∃ m B s1 L1, m + 1 = n ∧ dm_st g V (u + wk_ul E) e [] s = some (B, s1) ∧ rn g V m u (B ++ E) s1 s' L1 ∧ L = dv g V e s ++ L1 := by
  cases n with
  | zero =>
    obtain ⟨h1, -⟩ := h
    cases (Prod.mk.inj h1).1
  | succ n =>
    obtain ⟨c1, L1, h2, h3, h4⟩ := pe_cons h
    have hl := dm_loc (g := g) (V := V) u e [] E s
    rw [List.nil_append] at hl
    rw [hl] at h2
    obtain ⟨c0, k1, k2⟩ := Option.map_eq_some_iff.mp h2
    subst k2
    exact ⟨n, c0.1, c0.2, L1, rfl, k1, h3, h4⟩
theorem ul_nil : wk_ul [] = 0 := rfl
/-- one entry is left: a node ends -/
theorem rn_2 {a : Int} (h : rn g V n u [(2, a, 0)] s s' L) : s' = gm_cl s ∧ L = [] := by
  obtain ⟨m, B, s1, L1, h1, h2, h3, h4⟩ := rn_cons h
  rw [dm_st_2] at h2
  injection h2 with h2
  injection h2 with h5 h6
  subst h5
  subst h6
  obtain ⟨h7, h8⟩ := rn_nil h3
  subst h7
  subst h8
  refine ⟨rfl, ?_⟩
  rw [h4]
  unfold dv
  rw [if_neg (show ¬ (2 : Int) = 0 by decide), if_neg (show ¬ (2 : Int) = 5 by decide)]
  rfl
theorem rn_in {a : Int} {E : List wk_E} (h : rn g V n u (E ++ [(2, a, 0)]) s s' L) : ∃ m s2, m ≤ n ∧ rn g V m (u + a) E s s2 L ∧ s' = gm_cl s2 := by
  obtain ⟨n1, n2, s1, L1, L2, h1, h2, h3, h4, h5⟩ := rn_split h
  obtain ⟨h6, h7⟩ := rn_2 h4
  subst h7
  rw [List.append_nil] at h5
  subst h5
  have e : wk_ul [(2, a, 0)] = a := by rw [wk_ul_o, ul_nil, Int.add_zero]
  rw [e] at h3
  exact ⟨n1, s1, h1, h3, h6⟩
theorem dv_lf_n {p c : Int} (h : g 119 p.toNat = 9 ∨ g 119 p.toNat = 10) : dv_lf g V p c = [] := by
  unfold dv_lf
  rw [if_pos h]
theorem dv_lf_y {p c : Int} (h9 : g 119 p.toNat ≠ 9) (h10 : g 119 p.toNat ≠ 10) : dv_lf g V p c = [(p, V c)] := by
  unfold dv_lf
  rw [if_neg (fun q => by rcases q with q | q; exact h9 q; exact h10 q)]
/-- a use -/
theorem sgr_9 {p : Int} (h9 : g 119 p.toNat = 9) (h : sgr g V n u p s s' L) : u < 12 ∧ ∃ t m s2, gm_c 1 (g 115 (g 120 p.toNat).toNat) s = some t ∧ m ≤ n ∧ rn g V m (u + 1) [(1, wk_rf g p, 0)] (gm_d t) s2 L ∧ s' = gm_cl s2 := by
  obtain ⟨B, s1, L1, h1, h2, h3⟩ := h
  rw [dv_lf_n (Or.inl h9), List.nil_append] at h3
  subst h3
  unfold dm_sg at h1
  rw [if_pos h9] at h1
  unfold pm_en at h1
  rw [ul_nil] at h1
  by_cases c : 12 ≤ u + 0
  · rw [if_pos c] at h1
    cases h1
  · rw [if_neg c] at h1
    obtain ⟨t, k1, k2⟩ := Option.map_eq_some_iff.mp h1
    injection k2 with k3 k4
    subst k3
    subst k4
    obtain ⟨m, s2, m1, m2, m3⟩ := rn_in (E := [(1, g 114 (g 115 (g 120 p.toNat).toNat).toNat, 0)]) h2
    exact ⟨by omega, t, m, s2, k1, m1, m2, m3⟩
theorem sgr_10 {p : Int} (h10 : g 119 p.toNat = 10) (h : sgr g V n u p s s' L) : rn g V n u [(1, g 120 p.toNat, 0)] s s' L := by
  obtain ⟨B, s1, L1, h1, h2, h3⟩ := h
  rw [dv_lf_n (Or.inr h10), List.nil_append] at h3
  subst h3
  unfold dm_sg at h1
  rw [if_neg (by omega), if_pos h10] at h1
  injection h1 with h1
  injection h1 with k3 k4
  subst k3
  subst k4
  exact h2
theorem sgr_lf {p : Int} (h9 : g 119 p.toNat ≠ 9) (h10 : g 119 p.toNat ≠ 10) (h : sgr g V n u p s s' L) : L = [(p, V (gm_len s))] ∧ ((g 119 p.toNat = 1 ∧ gm_c 2 (V (gm_len s)) s = some s') ∨ (g 119 p.toNat = 2 ∧ gm_c 3 (V (gm_len s)) s = some s') ∨ (g 119 p.toNat ≠ 1 ∧ g 119 p.toNat ≠ 2 ∧ s' = s)) := by
  obtain ⟨B, s1, L1, h1, h2, h3⟩ := h
  rw [dv_lf_y h9 h10] at h3
  unfold dm_sg at h1
  rw [if_neg h9, if_neg h10] at h1
  obtain ⟨t, k1, k2⟩ := Option.map_eq_some_iff.mp h1
  injection k2 with k3 k4
  subst k3
  subst k4
  obtain ⟨h4, h5⟩ := rn_nil h2
  subst h4
  subst h5
  refine ⟨h3, ?_⟩
  unfold dm_lf at k1
  by_cases c1 : g 119 p.toNat = 1
  · rw [if_pos c1] at k1
    exact Or.inl ⟨c1, k1⟩
  · rw [if_neg c1] at k1
    by_cases c2 : g 119 p.toNat = 2
    · rw [if_pos c2] at k1
      exact Or.inr (Or.inl ⟨c2, k1⟩)
    · rw [if_neg c2] at k1
      injection k1 with k1
      exact Or.inr (Or.inr ⟨c1, c2, k1.symm⟩)
/-- a unit: many -/
theorem rn_u1 {p o : Int} (c1 : g 122 p.toNat = 1) (h : rn g V n u [(0, p, o)] s s' L) : ∃ t m s2, gm_c 5 (V (gm_len (gm_op o s))) (gm_op o s) = some t ∧ m < n ∧ rn g V m u [(5, p, V (gm_len (gm_op o s)))] (gm_d t) s2 L ∧ s' = gm_cl s2 := by
  obtain ⟨m, B, s1, L1, h1, h2, h3, h4⟩ := rn_cons h
  rw [dm_st_0, ul_nil, Int.add_zero] at h2
  unfold dm_u at h2
  rw [if_pos c1] at h2
  obtain ⟨t, k1, k2⟩ := Option.map_eq_some_iff.mp h2
  injection k2 with k3 k4
  subst k3
  subst k4
  have e : dv g V (0, p, o) s = [] := by
    unfold dv
    rw [if_pos rfl, if_pos c1]
  rw [e, List.nil_append] at h4
  subst h4
  obtain ⟨m', s2, m1, m2, m3⟩ := rn_in (E := [(5, p, V (gm_len (gm_op o s)))]) h3
  rw [Int.add_zero] at m2
  exact ⟨t, m', s2, k1, by omega, m2, m3⟩
/-- .. maybe -/
theorem rn_u2 {p o : Int} (c2 : g 122 p.toNat = 2) (h : rn g V n u [(0, p, o)] s s' L) : ∃ t, gm_c 6 (V (gm_len (gm_op o s))) (gm_op o s) = some t ∧ ((0 < V (gm_len (gm_op o s)) ∧ ∃ m s2, m < n ∧ sgr g V m u p (gm_d t) s2 L ∧ s' = gm_cl s2) ∨ (¬ 0 < V (gm_len (gm_op o s)) ∧ L = [] ∧ s' = gm_cl (gm_d t))) := by
  obtain ⟨m, B, s1, L1, h1, h2, h3, h4⟩ := rn_cons h
  rw [dm_st_0, ul_nil, Int.add_zero] at h2
  have el : gm_len s = gm_len (gm_op o s) := gm_op_e.2.symm
  have e : dv g V (0, p, o) s = if 0 < V (gm_len (gm_op o s)) then dv_lf g V p (gm_len (gm_op o s) + 1) else [] := by
    unfold dv
    rw [if_pos rfl, if_neg (show ¬ g 122 p.toNat = 1 by omega), if_pos c2, el]
  rw [e] at h4
  unfold dm_u at h2
  rw [if_neg (by omega), if_pos c2] at h2
  obtain ⟨t, k1, k2⟩ := Option.bind_eq_some_iff.mp h2
  refine ⟨t, k1, ?_⟩
  by_cases c : 0 < V (gm_len (gm_op o s))
  · rw [if_pos c] at k2 h4
    have hl := dm_sg_loc (l := u) (g := g) (V := V) (u := p) (r := []) (q := [(2, 0, 0)]) (s := gm_d t)
    rw [List.nil_append] at hl
    rw [hl] at k2
    obtain ⟨c0, x1, x2⟩ := Option.map_eq_some_iff.mp k2
    injection x2 with x3 x4
    subst x3
    subst x4
    have e0 : u + wk_ul [(2, 0, 0)] = u := by rw [wk_ul_o, ul_nil]; omega
    rw [e0] at x1
    rw [List.append_nil] at h3
    obtain ⟨m', s2, m1, m2, m3⟩ := rn_in h3
    rw [Int.add_zero] at m2
    obtain ⟨l1, l2⟩ := gm_c_len k1
    have el2 : gm_len (gm_d t) = gm_len (gm_op o s) + 1 := by
      unfold gm_len
      rw [gm_d_T, l2]
      omega
    exact Or.inl ⟨c, m', s2, by omega, ⟨c0.1, c0.2, L1, x1, m2, by rw [h4, el2]⟩, m3⟩
  · rw [if_neg c] at k2 h4
    injection k2 with k2
    injection k2 with x3 x4
    subst x3
    subst x4
    obtain ⟨m1, m2⟩ := rn_2 h3
    subst m2
    exact Or.inr ⟨c, h4, m1⟩
/-- .. once -/
theorem rn_u0 {p o : Int} (c1 : g 122 p.toNat ≠ 1) (c2 : g 122 p.toNat ≠ 2) (h : rn g V n u [(0, p, o)] s s' L) : ∃ m, m < n ∧ sgr g V m u p (gm_op o s) s' L := by
  obtain ⟨m, B, s1, L1, h1, h2, h3, h4⟩ := rn_cons h
  rw [dm_st_0, ul_nil, Int.add_zero] at h2
  unfold dm_u at h2
  rw [if_neg c1, if_neg c2] at h2
  rw [List.append_nil] at h3
  refine ⟨m, by omega, B, s1, L1, h2, h3, ?_⟩
  rw [h4]
  unfold dv
  rw [if_pos rfl, if_neg c1, if_neg c2, gm_op_e.2]
/-- once more -/
theorem rn_5 {p a : Int} (h : rn g V n u [(5, p, a)] s s' L) : (0 < a ∧ ∃ m1 m2 s1 L1 L2, m1 < n ∧ m2 < n ∧ sgr g V m1 u p s s1 L1 ∧ rn g V m2 u [(5, p, a - 1)] s1 s' L2 ∧ L = L1 ++ L2) ∨ (¬ 0 < a ∧ s' = s ∧ L = []) := by
  obtain ⟨m, B, s1, L1, h1, h2, h3, h4⟩ := rn_cons h
  rw [dm_st_5, ul_nil, Int.add_zero] at h2
  rw [List.append_nil] at h3
  have e : dv g V (5, p, a) s = if 0 < a then dv_lf g V p (gm_len s) else [] := by
    unfold dv
    rw [if_neg (show ¬ (5 : Int) = 0 by decide), if_pos rfl]
  rw [e] at h4
  unfold dm_ag at h2
  by_cases c : 0 < a
  · rw [if_pos c] at h2 h4
    have hl := dm_sg_loc (l := u) (g := g) (V := V) (u := p) (r := []) (q := [(5, p, a - 1)]) (s := s)
    rw [List.nil_append] at hl
    rw [hl] at h2
    obtain ⟨c0, x1, x2⟩ := Option.map_eq_some_iff.mp h2
    injection x2 with x3 x4
    subst x3
    subst x4
    have e0 : u + wk_ul [(5, p, a - 1)] = u := by rw [wk_ul_c (by decide), ul_nil]; omega
    rw [e0] at x1
    obtain ⟨n1, n2, s2, M1, M2, i1, i2, i3, i4, i5⟩ := rn_split h3
    rw [e0] at i3
    exact Or.inl ⟨c, n1, n2, s2, _, M2, by omega, by omega, ⟨c0.1, c0.2, M1, x1, i3, rfl⟩, i4, by rw [h4, i5, List.append_assoc]⟩
  · rw [if_neg c] at h2 h4
    injection h2 with h2
    injection h2 with x3 x4
    subst x3
    subst x4
    obtain ⟨k1, k2⟩ := rn_nil h3
    exact Or.inr ⟨c, k1, by rw [h4, k2]; rfl⟩
theorem dv_1 {f a : Int} : dv g V (1, f, a) s = [] := by
  unfold dv
  rw [if_neg (show ¬ (1 : Int) = 0 by decide), if_neg (show ¬ (1 : Int) = 5 by decide)]
/-- a form: a choice -/
theorem rn_f1 {f a : Int} (c : 1 < g 130 f.toNat) (h : rn g V n u [(1, f, a)] s s' L) : (0 ≤ V (gm_len s) ∧ V (gm_len s) < g 130 f.toNat) ∧ ∃ t m s2, gm_c 4 (V (gm_len s)) s = some t ∧ m < n ∧ rn g V m u (wk_it g 61 (g 126 (wk_alt g (V (gm_len s)).toNat (g 129 f.toNat)).toNat)) (gm_d t) s2 L ∧ s' = gm_cl s2 := by
  obtain ⟨m, B, s1, L1, h1, h2, h3, h4⟩ := rn_cons h
  rw [dv_1, List.nil_append] at h4
  subst h4
  rw [dm_st_1] at h2
  unfold dm_fo at h2
  rw [if_pos c] at h2
  by_cases cv : 0 ≤ V (gm_len s) ∧ V (gm_len s) < g 130 f.toNat
  · rw [if_pos cv] at h2
    obtain ⟨t, k1, k2⟩ := Option.map_eq_some_iff.mp h2
    injection k2 with k3 k4
    subst k3
    subst k4
    rw [List.append_nil] at h3
    obtain ⟨m', s2, m1, m2, m3⟩ := rn_in h3
    rw [Int.add_zero] at m2
    exact ⟨cv, t, m', s2, k1, by omega, m2, m3⟩
  · rw [if_neg cv] at h2
    cases h2
theorem rn_f0 {f a : Int} (c : ¬ 1 < g 130 f.toNat) (h : rn g V n u [(1, f, a)] s s' L) : ∃ m, m < n ∧ rn g V m u (wk_it g 61 (g 126 (g 129 f.toNat).toNat)) s s' L := by
  obtain ⟨m, B, s1, L1, h1, h2, h3, h4⟩ := rn_cons h
  rw [dv_1, List.nil_append] at h4
  subst h4
  rw [dm_st_1] at h2
  unfold dm_fo at h2
  rw [if_neg c] at h2
  injection h2 with h2
  injection h2 with k3 k4
  subst k3
  subst k4
  rw [List.append_nil, List.append_nil] at h3
  exact ⟨m, by omega, h3⟩
theorem ul_it {N : Nat} {p : Int} : wk_ul (wk_it g N p) = 0 := by
  have := wk_ul_it (g := g) (N := N) (u := p) (r := [])
  rw [List.append_nil] at this
  exact this
/-- an item -/
theorem rn_i0 {e : wk_E} {N : Nat} {p : Int} (h : rn g V n u (e :: wk_it g N p) s s' L) : ∃ n1 n2 s1 L1 L2, n1 ≤ n ∧ n2 ≤ n ∧ rn g V n1 u [e] s s1 L1 ∧ rn g V n2 u (wk_it g N p) s1 s' L2 ∧ L = L1 ++ L2 := by
  obtain ⟨n1, n2, s1, L1, L2, h1, h2, h3, h4, h5⟩ := rn_split (A := [e]) (q := wk_it g N p) h
  rw [ul_it, Int.add_zero] at h3
  exact ⟨n1, n2, s1, L1, L2, h1, h2, h3, h4, h5⟩
/-- a pair -/
theorem rn_i1 {N : Nat} {a b p : Int} (h : rn g V n u ((0, a, 1) :: (3, 0, 0) :: (0, b, 0) :: (4, 0, 0) :: wk_it g N p) s s' L) : ∃ n1 n2 n3 s1 s2 L1 L2 L3, n1 ≤ n ∧ n2 ≤ n ∧ n3 ≤ n ∧ rn g V n1 u [(0, a, 1)] s s1 L1 ∧ rn g V n2 u [(0, b, 0)] (gm_mid s1) s2 L2 ∧ rn g V n3 u (wk_it g N p) (gm_tu s2) s' L3 ∧ L = L1 ++ (L2 ++ L3) := by
  have e4 : wk_ul ((4, 0, 0) :: wk_it g N p) = 0 := by rw [wk_ul_c (by decide), ul_it]
  have e3 : wk_ul ((3, 0, 0) :: (0, b, 0) :: (4, 0, 0) :: wk_it g N p) = 0 := by rw [wk_ul_c (by decide), wk_ul_c (by decide), e4]
  obtain ⟨n1, n2, s1, L1, L2, h1, h2, h3, h4, h5⟩ := rn_split (A := [(0, a, 1)]) (q := (3, 0, 0) :: (0, b, 0) :: (4, 0, 0) :: wk_it g N p) h
  rw [e3, Int.add_zero] at h3
  obtain ⟨m, B, s2, L3, k1, k2, k3, k4⟩ := rn_cons h4
  rw [dm_st_3] at k2
  injection k2 with k2
  injection k2 with x3 x4
  subst x3
  subst x4
  have d3 : dv g V (3, 0, 0) s1 = [] := by
    unfold dv
    rw [if_neg (show ¬ (3 : Int) = 0 by decide), if_neg (show ¬ (3 : Int) = 5 by decide)]
  rw [d3, List.nil_append] at k4
  subst k4
  obtain ⟨m1, m2, s3, L4, L5, i1, i2, i3, i4, i5⟩ := rn_split (A := [(0, b, 0)]) (q := (4, 0, 0) :: wk_it g N p) k3
  rw [e4, Int.add_zero] at i3
  obtain ⟨m', B, s4, L6, y1, y2, y3, y4⟩ := rn_cons i4
  rw [dm_st_4] at y2
  injection y2 with y2
  injection y2 with x3 x4
  subst x3
  subst x4
  have d4 : dv g V (4, 0, 0) s3 = [] := by
    unfold dv
    rw [if_neg (show ¬ (4 : Int) = 0 by decide), if_neg (show ¬ (4 : Int) = 5 by decide)]
  rw [d4, List.nil_append] at y4
  subst y4
  exact ⟨n1, m1, m', s1, s3, L1, L4, L5, h1, by omega, by omega, h3, i3, y3, by rw [h5, i5]⟩
end RN0
/-! what a run appends -/
def tpc (D : Int) (A : List (Int × Int × Int)) : Int := ((A.filter (fun x => decide (x.2.2 = D))).length : Int)
def apt (k : Int) (s s' : gm_S) : Prop := gm_D s' = gm_D s ∧ gm_P s' = gm_P s ∧ ∃ A, gm_T s' = gm_T s ++ A ∧ fo (gm_D s) A ∧ tpc (gm_D s) A = k
theorem tpc_app {D : Int} {A B : List (Int × Int × Int)} : tpc D (A ++ B) = tpc D A + tpc D B := by
  unfold tpc
  rw [List.filter_append, List.length_append]
  omega
theorem tpc_0 {D : Int} {A : List (Int × Int × Int)} (h : fo (D + 1) A) : tpc D A = 0 := by
  unfold tpc
  rw [List.filter_eq_nil_iff.mpr (fun x hx => by
    have := h.1 x hx
    rw [decide_eq_true_eq]
    omega)]
  rfl
theorem tpc_cons {D k v : Int} {A : List (Int × Int × Int)} (h : fo (D + 1) A) : tpc D ((k, v, D) :: A) = 1 := by
  have e := tpc_app (D := D) (A := [(k, v, D)]) (B := A)
  rw [tpc_0 h] at e
  have e1 : tpc D [(k, v, D)] = 1 := by
    unfold tpc
    rw [List.filter_cons, if_pos (by rw [decide_eq_true_eq])]
    rfl
  rw [e1] at e
  exact e
section APT
variable {s s1 s2 s' t : gm_S} {a b k v : Int}
theorem apt_refl : apt 0 s s := ⟨rfl, rfl, [], (List.append_nil _).symm, fo_nil, rfl⟩
theorem apt_trans (h1 : apt a s s1) (h2 : apt b s1 s2) : apt (a + b) s s2 := by
  obtain ⟨x1, x2, A, x3, x4, x5⟩ := h1
  obtain ⟨y1, y2, B, y3, y4, y5⟩ := h2
  rw [x1] at y4 y5
  exact ⟨y1.trans x1, y2.trans x2, A ++ B, by rw [y3, x3, List.append_assoc], fo_app x4 y4, by rw [tpc_app, x5, y5]⟩
theorem cl_T : gm_T (gm_cl s) = gm_T s := by unfold gm_cl; rw [gm_T_mk]
theorem cl_D : gm_D (gm_cl s) = gm_D s - 1 := by unfold gm_cl; rw [gm_D_mk]
theorem cl_P : gm_P (gm_cl s) = gm_P s := by unfold gm_cl; rw [gm_P_mk]
/-- a node with all that is in it, told openly -/
theorem node_T {A : List (Int × Int × Int)} (h : gm_c k v s = some t) (hA : gm_T s2 = gm_T (gm_d t) ++ A) : gm_T (gm_cl s2) = gm_T s ++ (k + 10 * ((gm_T s).length : Int), v, gm_D s) :: A := by
  obtain ⟨-, -, t3, -, -⟩ := gm_c_t h
  rw [cl_T, hA, gm_d_T, t3, List.append_assoc]
  rfl
theorem apt_node (h : gm_c k v s = some t) (h2 : apt a (gm_d t) s2) : apt 1 s (gm_cl s2) := by
  obtain ⟨x1, x2, A, x3, x4, x5⟩ := h2
  obtain ⟨-, -, t3, t4, t5⟩ := gm_c_t h
  obtain ⟨-, -, d3, d4⟩ := gm_d_e (t := t)
  rw [d3, t4] at x1 x4
  rw [d4, t5] at x2
  exact ⟨by rw [cl_D, x1]; omega, by rw [cl_P, x2], _, node_T h x3, fo_cons x4, tpc_cons x4⟩
theorem apt_leaf (h : gm_c k v s = some t) : apt 1 s t := by
  obtain ⟨-, -, t3, t4, t5⟩ := gm_c_t h
  exact ⟨t4, t5, _, t3, fo_one, tpc_cons fo_nil⟩
/-- a pair: what comes second stands first -/
theorem pair_T {A B : List (Int × Int × Int)} (p1 : gm_P s1 = gm_P (gm_op 1 s)) (a1 : gm_T s1 = gm_T (gm_op 1 s) ++ A) (p2 : gm_P s2 = gm_P (gm_mid s1)) (a2 : gm_T s2 = gm_T (gm_mid s1) ++ B) : gm_T (gm_tu s2) = gm_T s ++ (B ++ A) ∧ gm_P (gm_tu s2) = gm_P s ∧ gm_D (gm_tu s2) = gm_D s2 := by
  have oP : gm_P (gm_op 1 s) = ((gm_T s).length, 0) :: gm_P s := by unfold gm_op; rw [if_pos rfl, gm_P_mk]
  have mP : gm_P (gm_mid s1) = ((gm_T s).length, (gm_T s1).length) :: gm_P s := by unfold gm_mid; rw [gm_P_mk, p1, oP]
  rw [gm_op_t] at a1
  rw [gm_mid_T] at a2
  rw [mP] at p2
  have etu : gm_tu s2 = (gm_X s2, gm_F s2, gm_rot (gm_T s).length (gm_T s1).length (gm_T s2), gm_D s2, gm_P s) := by
    unfold gm_tu
    rw [p2]
  refine ⟨?_, by rw [etu, gm_P_mk], by rw [etu, gm_D_mk]⟩
  rw [etu, gm_T_mk, a2, a1]
  exact gm_rot_pre
theorem apt_pair (h1 : apt a (gm_op 1 s) s1) (h2 : apt b (gm_mid s1) s2) : apt (a + b) s (gm_tu s2) := by
  obtain ⟨x1, x2, A, x3, x4, x5⟩ := h1
  obtain ⟨y1, y2, B, y3, y4, y5⟩ := h2
  have mD : gm_D (gm_mid s1) = gm_D s1 := by unfold gm_mid; rw [gm_D_mk]
  have oD : gm_D (gm_op 1 s) = gm_D s := gm_op_e.1
  obtain ⟨z1, z2, z3⟩ := pair_T x2 x3 y2 y3
  rw [oD] at x1 x4 x5
  rw [mD, x1] at y1 y4 y5
  exact ⟨z3.trans y1, z2, B ++ A, z1, fo_app y4 x4, by rw [tpc_app, x5, y5]; omega⟩
end APT
/-- tops of items -/
def itt (t : Int → Int) : List wk_E → Int
  | [] => 0
  | e :: r => (if e.1 = 0 then t e.2.1 else 0) + itt t r
/-- the tops, told of all units -/
def tt_G (t : Int → Int) (g : wk_g) (Y : wk_Y) : Prop := ∀ p, 0 ≤ p → p < wk_u Y → (g 122 p.toNat ≠ 0 → t p = 1) ∧ (g 122 p.toNat = 0 → ((g 119 p.toNat = 1 ∨ g 119 p.toNat = 2 ∨ g 119 p.toNat = 9) → t p = 1) ∧ (g 119 p.toNat = 10 → t p = if 1 < g 130 (g 120 p.toNat).toNat then 1 else itt t (wk_it g 61 (g 126 (g 129 (g 120 p.toNat).toNat).toNat))) ∧ (g 119 p.toNat ≠ 1 → g 119 p.toNat ≠ 2 → g 119 p.toNat ≠ 9 → g 119 p.toNat ≠ 10 → t p = 0))
def ftt (t : Int → Int) (g : wk_g) (f : Int) : Int := if 1 < g 130 f.toNat then 1 else itt t (wk_it g 61 (g 126 (g 129 f.toNat).toNat))
def sgt (t : Int → Int) (g : wk_g) (p : Int) : Int := if g 119 p.toNat = 1 ∨ g 119 p.toNat = 2 ∨ g 119 p.toNat = 9 then 1 else if g 119 p.toNat = 10 then ftt t g (g 120 p.toNat) else 0
section TOP
variable {g : wk_g} {V : Int → Int} {Y : wk_Y} {t : Int → Int}
def tpq_F (g : wk_g) (V : Int → Int) (Y : wk_Y) (t : Int → Int) (N : Nat) : Prop := ∀ n, n < N → ∀ u f s s' L, 0 ≤ f → f < wk_f Y → rn g V n u [(1, f, 0)] s s' L → apt (ftt t g f) s s'
theorem tpq_sg {N : Nat} (hL : wk_L g Y) (hF : tpq_F g V Y t N) {n : Nat} {u p : Int} {s s' : gm_S} {L : List (Int × Int)} (hn : n < N) (p0 : 0 ≤ p) (p1 : p < wk_u Y) (h : sgr g V n u p s s' L) : apt (sgt t g p) s s' := by
  obtain ⟨-, -, -, l9, l10, -⟩ := hL.2.2.1 p p0 p1
  unfold sgt
  by_cases c9 : g 119 p.toNat = 9
  · rw [if_pos (Or.inr (Or.inr c9))]
    obtain ⟨-, t', m, s2, h1, h2, h3, h4⟩ := sgr_9 c9 h
    obtain ⟨-, -, -, -, r1, r2, -⟩ := l9 c9
    subst h4
    exact apt_node h1 (hF m (by omega) _ _ _ _ _ r1 r2 h3)
  · by_cases c10 : g 119 p.toNat = 10
    · rw [if_neg (by omega), if_pos c10]
      obtain ⟨x1, x2, -⟩ := l10 c10
      exact hF n hn _ _ _ _ _ x1 x2 (sgr_10 c10 h)
    · obtain ⟨-, h2⟩ := sgr_lf c9 c10 h
      rcases h2 with ⟨a, b⟩ | ⟨a, b⟩ | ⟨a, b, c⟩
      · rw [if_pos (Or.inl a)]
        exact apt_leaf b
      · rw [if_pos (Or.inr (Or.inl a))]
        exact apt_leaf b
      · rw [if_neg (by omega), if_neg c10, c]
        exact apt_refl
theorem tpq_5 {N : Nat} (hL : wk_L g Y) (hF : tpq_F g V Y t N) {u p : Int} (p0 : 0 ≤ p) (p1 : p < wk_u Y) : ∀ (k : Nat) (a : Int) (n : Nat) (s s' : gm_S) (L : List (Int × Int)), a ≤ k → n ≤ N → rn g V n u [(5, p, a)] s s' L → ∃ j, apt j s s' := by
  intro k
  induction k with
  | zero =>
    intro a n s s' L ha hn h
    rcases rn_5 h with ⟨c, -⟩ | ⟨-, c, -⟩
    · omega
    · rw [c]
      exact ⟨0, apt_refl⟩
  | succ k ih =>
    intro a n s s' L ha hn h
    rcases rn_5 h with ⟨c, m1, m2, s1, L1, L2, h1, h2, h3, h4, -⟩ | ⟨-, c, -⟩
    · obtain ⟨j, hj⟩ := ih (a - 1) m2 s1 s' L2 (by omega) (by omega) h4
      exact ⟨_, apt_trans (tpq_sg hL hF (by omega) p0 p1 h3) hj⟩
    · rw [c]
      exact ⟨0, apt_refl⟩
theorem tpq_u {N : Nat} (hL : wk_L g Y) (hT : tt_G t g Y) (hr : ∀ p, 0 ≤ p → p < wk_u Y → 0 ≤ g 122 p.toNat ∧ g 122 p.toNat ≤ 2) (hF : tpq_F g V Y t N) {n : Nat} {u p o : Int} {s s' : gm_S} {L : List (Int × Int)} (hn : n ≤ N) (p0 : 0 ≤ p) (p1 : p < wk_u Y) (h : rn g V n u [(0, p, o)] s s' L) : apt (t p) (gm_op o s) s' := by
  obtain ⟨t1, t2⟩ := hT p p0 p1
  have hr := hr p p0 p1
  by_cases c1 : g 122 p.toNat = 1
  · obtain ⟨t', m, s2, h1, h2, h3, h4⟩ := rn_u1 c1 h
    obtain ⟨j, hj⟩ := tpq_5 hL hF p0 p1 (V (gm_len (gm_op o s))).toNat _ m _ _ _ (by omega) (by omega) h3
    rw [h4, t1 (by omega)]
    exact apt_node h1 hj
  · by_cases c2 : g 122 p.toNat = 2
    · obtain ⟨t', h1, h2⟩ := rn_u2 c2 h
      rw [t1 (by omega)]
      rcases h2 with ⟨-, m, s2, h3, h4, h5⟩ | ⟨-, -, h5⟩
      · rw [h5]
        exact apt_node h1 (tpq_sg hL hF (by omega) p0 p1 h4)
      · rw [h5]
        exact apt_node h1 apt_refl
    · obtain ⟨m, h1, h2⟩ := rn_u0 c1 c2 h
      have e : t p = sgt t g p := by
        obtain ⟨a1, a2, a3⟩ := t2 (by omega)
        unfold sgt ftt
        by_cases q : g 119 p.toNat = 1 ∨ g 119 p.toNat = 2 ∨ g 119 p.toNat = 9
        · rw [if_pos q]
          exact a1 q
        · rw [if_neg q]
          by_cases q2 : g 119 p.toNat = 10
          · rw [if_pos q2]
            exact a2 q2
          · rw [if_neg q2]
            exact a3 (by omega) (by omega) (by omega) q2
      rw [e]
      exact tpq_sg hL hF (by omega) p0 p1 h2
theorem tpq_it {N : Nat} (hL : wk_L g Y) (hT : tt_G t g Y) (hr : ∀ p, 0 ≤ p → p < wk_u Y → 0 ≤ g 122 p.toNat ∧ g 122 p.toNat ≤ 2) (hF : tpq_F g V Y t N) {u : Int} : ∀ (K : Nat) (p : Int) (n : Nat) (s s' : gm_S) (L : List (Int × Int)), n ≤ N → (p < 0 ∨ p < wk_u Y) → rn g V n u (wk_it g K p) s s' L → apt (itt t (wk_it g K p)) s s' := by
  intro K
  induction K with
  | zero =>
    intro p n s s' L hn hp h
    have h : rn g V n u [] s s' L := h
    rw [(rn_nil h).1]
    exact apt_refl
  | succ K ih =>
    intro p n s s' L hn hp h
    by_cases c : p < 0
    · have e : wk_it g (K + 1) p = [] := by rw [wk_it, if_pos c]
      rw [e] at h ⊢
      rw [(rn_nil h).1]
      exact apt_refl
    · have hp : p < wk_u Y := by omega
      obtain ⟨-, lm, ln, -⟩ := hL.2.2.1 p (by omega) hp
      have nx : g 125 p.toNat < 0 ∨ g 125 p.toNat < wk_u Y := by
        by_cases q : 0 ≤ g 125 p.toNat
        · exact Or.inr (ln q).1
        · exact Or.inl (by omega)
      by_cases cm : 0 ≤ g 124 p.toNat
      · have e : wk_it g (K + 1) p = (0, p, 1) :: (3, 0, 0) :: (0, g 124 p.toNat, 0) :: (4, 0, 0) :: wk_it g K (g 125 p.toNat) := by rw [wk_it, if_neg c, if_pos cm]
        rw [e] at h ⊢
        obtain ⟨n1, n2, n3, s1, s2, L1, L2, L3, h1, h2, h3, h4, h5, h6, -⟩ := rn_i1 h
        have a1 := tpq_u hL hT hr hF (by omega) (by omega) hp h4
        have a2 := tpq_u hL hT hr hF (by omega) cm (lm cm).1 h5
        have a3 := ih _ _ _ _ _ (by omega) nx h6
        have o0 : gm_op 0 (gm_mid s1) = gm_mid s1 := by unfold gm_op; rw [if_neg (by decide)]
        rw [o0] at a2
        have := apt_trans (apt_pair a1 a2) a3
        have ei : itt t ((0, p, 1) :: (3, 0, 0) :: (0, g 124 p.toNat, 0) :: (4, 0, 0) :: wk_it g K (g 125 p.toNat)) = t p + t (g 124 p.toNat) + itt t (wk_it g K (g 125 p.toNat)) := by
          show (if (0 : Int) = 0 then t p else 0) + ((if (3 : Int) = 0 then t 0 else 0) + ((if (0 : Int) = 0 then t (g 124 p.toNat) else 0) + ((if (4 : Int) = 0 then t 0 else 0) + itt t (wk_it g K (g 125 p.toNat))))) = _
          rw [if_pos rfl, if_pos rfl, if_neg (by decide), if_neg (by decide)]
          omega
        rw [ei]
        exact this
      · have e : wk_it g (K + 1) p = (0, p, 0) :: wk_it g K (g 125 p.toNat) := by rw [wk_it, if_neg c, if_neg cm]
        rw [e] at h ⊢
        obtain ⟨n1, n2, s1, L1, L2, h1, h2, h3, h4, -⟩ := rn_i0 h
        have a1 := tpq_u hL hT hr hF (by omega) (by omega) hp h3
        have a3 := ih _ _ _ _ _ (by omega) nx h4
        have o0 : gm_op 0 s = s := by unfold gm_op; rw [if_neg (by decide)]
        rw [o0] at a1
        have ei : itt t ((0, p, 0) :: wk_it g K (g 125 p.toNat)) = t p + itt t (wk_it g K (g 125 p.toNat)) := by
          show (if (0 : Int) = 0 then t p else 0) + itt t (wk_it g K (g 125 p.toNat)) = _
          rw [if_pos rfl]
        rw [ei]
        exact apt_trans a1 a3
theorem tpq_all (hL : wk_L g Y) (hT : tt_G t g Y) (hr : ∀ p, 0 ≤ p → p < wk_u Y → 0 ≤ g 122 p.toNat ∧ g 122 p.toNat ≤ 2) : ∀ N : Nat, tpq_F g V Y t N := by
  intro N
  induction N with
  | zero => intro n hn; omega
  | succ N ih =>
    intro n hn u f s s' L f0 f1 h
    obtain ⟨-, -, d3, -, -, d5⟩ := hL.2.2.2 f f0 f1
    unfold ftt
    by_cases c : 1 < g 130 f.toNat
    · rw [if_pos c]
      obtain ⟨cv, t', m, s2, h1, h2, h3, h4⟩ := rn_f1 c h
      rw [h4]
      obtain ⟨-, -, p8⟩ := d5 (V (gm_len s)).toNat (by omega)
      exact apt_node h1 (tpq_it hL hT hr ih 61 _ m _ _ _ (by omega) (by omega) h3)
    · rw [if_neg c]
      obtain ⟨m, h1, h2⟩ := rn_f0 c h
      obtain ⟨-, -, p8⟩ := d5 0 (by omega)
      have p8 : g 126 (g 129 f.toNat).toNat < 0 ∨ (g 126 (g 129 f.toNat).toNat < wk_u Y ∧ wk_c Y (g 126 (g 129 f.toNat).toNat) = f) := p8
      exact tpq_it hL hT hr ih 61 _ m _ _ _ (by omega) (by omega) h2
end TOP
/-! the class prints a tree's nodes: rows, leaves, behind -/
/-- nodes in the rows of the class's tree, from the q-th on -/
def rh (h : sm_H) (q : Nat) (A : List (Int × Int × Int)) : Prop := (∀ k : Nat, k < A.length → (A.map (fun x => x.2.1))[k]? = some (mi_a h 96 (q + k))) ∧ ∀ k : Nat, k < A.length → (sz A)[k]? = some (mi_a h 97 (q + k))
theorem rh_fr {h h' : sm_H} {q : Nat} {A : List (Int × Int × Int)} {wr : List (Nat × Nat)} (hr : rh h q A) (hF : ab_Fr wr h h') (hS : ab_Sh sx_sk h) (hw : (ab_in wr 12288 || ab_in wr 12416) = false) : rh h' q A := by
  simp only [Bool.or_eq_false_iff] at hw
  exact ⟨fun k hk => by rw [me_a (k := 96) hF hS rfl hw.1]; exact hr.1 k hk, fun k hk => by rw [me_a (k := 97) hF hS rfl hw.2]; exact hr.2 k hk⟩
theorem rh_app {h : sm_H} {q : Nat} {D : Int} {A B : List (Int × Int × Int)} (fA : fo D A) (fB : fo D B) (hr : rh h q (A ++ B)) : rh h q A ∧ rh h (q + A.length) B := by
  have lA : (A.map (fun x => x.2.1)).length = A.length := List.length_map _
  refine ⟨⟨fun k hk => ?_, fun k hk => ?_⟩, fun k hk => ?_, fun k hk => ?_⟩
  · have := hr.1 k (by rw [List.length_append]; omega)
    rw [List.map_append, List.getElem?_append_left (by omega)] at this
    exact this
  · have := hr.2 k (by rw [List.length_append]; omega)
    rw [sz_app fB A fA.1, List.getElem?_append_left (by rw [sz_len]; exact hk)] at this
    exact this
  · have := hr.1 (A.length + k) (by rw [List.length_append]; omega)
    rw [List.map_append, List.getElem?_append_right (by omega), lA, Nat.add_sub_cancel_left, ← Nat.add_assoc] at this
    exact this
  · have := hr.2 (A.length + k) (by rw [List.length_append]; omega)
    rw [sz_app fB A fA.1, List.getElem?_append_right (by rw [sz_len]; omega), sz_len, Nat.add_sub_cancel_left, ← Nat.add_assoc] at this
    exact this
theorem rh_cons {h : sm_H} {q : Nat} {D k v : Int} {B : List (Int × Int × Int)} (fB : fo (D + 1) B) (hr : rh h q ((k, v, D) :: B)) : mi_a h 96 q = v ∧ mi_a h 97 q = (B.length : Int) ∧ rh h (q + 1) B := by
  refine ⟨?_, ?_, fun j hj => ?_, fun j hj => ?_⟩
  · have := hr.1 0 (Nat.succ_pos _)
    have this : some v = some (mi_a h 96 q) := this
    injection this with this
    exact this.symm
  · have := hr.2 0 (Nat.succ_pos _)
    rw [sz_cons fB] at this
    have this : some (B.length : Int) = some (mi_a h 97 q) := this
    injection this with this
    exact this.symm
  · have := hr.1 (j + 1) (Nat.succ_lt_succ hj)
    rw [Nat.add_assoc, Nat.add_comm 1 j]
    exact this
  · have := hr.2 (j + 1) (Nat.succ_lt_succ hj)
    rw [sz_cons fB] at this
    rw [Nat.add_assoc, Nat.add_comm 1 j]
    exact this
theorem sz_drop : ∀ (k : Nat) (A : List (Int × Int × Int)), sz (A.drop k) = (sz A).drop k := by
  intro k
  induction k with
  | zero => intro A; rfl
  | succ k ih =>
    intro A
    cases A with
    | nil => rfl
    | cons x A => exact ih A
theorem rh_drop {h : sm_H} {q k : Nat} {A : List (Int × Int × Int)} (hr : rh h q A) : rh h (q + k) (A.drop k) := by
  refine ⟨fun j hj => ?_, fun j hj => ?_⟩
  · rw [List.length_drop] at hj
    rw [List.map_drop, List.getElem?_drop, hr.1 (k + j) (by omega), Nat.add_assoc]
  · rw [List.length_drop] at hj
    rw [sz_drop, List.getElem?_drop, hr.2 (k + j) (by omega), Nat.add_assoc]
/-- the first of some nodes side by side, with all that is in it -/
theorem fo_first {h : sm_H} {q : Nat} {D : Int} {x : Int × Int × Int} {A : List (Int × Int × Int)} (hf : fo D (x :: A)) (hr : rh h q (x :: A)) : ∃ (j : Nat) (C : List (Int × Int × Int)), A.length = j + C.length ∧ mi_a h 97 q = (j : Int) ∧ fo D C ∧ tpc D (x :: A) = 1 + tpc D C ∧ rh h (q + (1 + j)) C := by
  have hx := hf.2 x A rfl
  obtain ⟨B, hB⟩ : ∃ B, B = A.takeWhile (fun y => decide (D < y.2.2)) := ⟨_, rfl⟩
  obtain ⟨C, hC⟩ : ∃ C, C = A.dropWhile (fun y => decide (D < y.2.2)) := ⟨_, rfl⟩
  have e : A = B ++ C := by rw [hB, hC, List.takeWhile_append_dropWhile]
  have hBl : ∀ y ∈ B, D < y.2.2 := fun y hy => by
    rw [hB] at hy
    have := List.all_eq_true.mp List.all_takeWhile y hy
    rw [decide_eq_true_eq] at this
    exact this
  have fC : fo D C := by
    refine ⟨fun y hy => hf.1 y (List.mem_cons_of_mem _ (by rw [e]; exact List.mem_append_right _ hy)), fun y R hR => ?_⟩
    have h1 : D ≤ y.2.2 := hf.1 y (List.mem_cons_of_mem _ (by rw [e, hR]; exact List.mem_append_right _ List.mem_cons_self))
    have h2 : ¬ D < y.2.2 := by
      intro q
      have h3 : C.head? = some y := by rw [hR]; rfl
      have h4 := List.head?_dropWhile_not (fun y => decide (D < y.2.2)) A
      rw [← hC, h3] at h4
      dsimp only at h4
      rw [decide_eq_false_iff_not] at h4
      exact h4 q
    omega
  refine ⟨B.length, C, by rw [e, List.length_append], ?_, fC, ?_, ?_⟩
  · have := hr.2 0 (Nat.succ_pos _)
    have this : some (((A.takeWhile (fun y => decide (x.2.2 < y.2.2))).length : Int)) = some (mi_a h 97 q) := this
    injection this with this
    rw [← this, hx, hB]
  · have e1 : x :: A = [x] ++ (B ++ C) := by rw [e]; rfl
    rw [e1, tpc_app, tpc_app]
    have t1 : tpc D [x] = 1 := by
      unfold tpc
      rw [List.filter_cons, if_pos (by rw [decide_eq_true_eq]; exact hx)]
      rfl
    have t2 : tpc D B = 0 := by
      unfold tpc
      rw [List.filter_eq_nil_iff.mpr (fun y hy => by
        have := hBl y hy
        rw [decide_eq_true_eq]
        omega)]
      rfl
    rw [t1, t2]
    omega
  · have := rh_drop (k := 1 + B.length) hr
    have e2 : (x :: A).drop (1 + B.length) = C := by
      rw [Nat.add_comm, List.drop_succ_cons, e, List.drop_left]
    rw [e2] at this
    exact this
theorem tpc_nn {D : Int} {A : List (Int × Int × Int)} : 0 ≤ tpc D A := by
  unfold tpc
  omega
section CBH
variable {d : Nat} {h : sm_H}
theorem cb5 {zf zm D : Int} (hS : ab_Sh sx_sk h) (of : mi_in zf) (om : mi_in zm) (n1 : mi_f h 12032 ≤ 100) : ∀ (m : Nat) (zn : Int) (k : Nat) (R : List (Int × Int × Int)), zm - zn = m → 0 ≤ zn → rh h k R → fo D R → tpc D R = m → (k : Int) + R.length ≤ mi_f h 12032 → me_E (d + 3) 129 5 [some (.inr (.inr 94)), some (.inl zf), some (.inl zm), some (.inl (k : Int)), some (.inl zn)] [] h (fun w h' => w = some (.inl ((k + R.length : Nat) : Int)) ∧ h' = h) := by
  intro m
  induction m with
  | zero =>
    intro zn k R hm z0 hr hf ht hk
    have ok : mi_in (k : Int) := ⟨by omega, by omega⟩
    have on : mi_in zn := by
      unfold mi_in at om ⊢
      omega
    refine mt_kobB hS of om ok on ?_ (by intros; exfalso; omega) (by intros; exfalso; omega) (by intros; exfalso; omega) (by intros; exfalso; omega)
    intro c h1 g1 g2
    have e := me_nil g2
    subst e
    cases R with
    | nil => exact ⟨rfl, rfl⟩
    | cons x R =>
      exfalso
      obtain ⟨j, C, -, -, -, q, -⟩ := fo_first hf hr
      have := tpc_nn (D := D) (A := C)
      omega
  | succ m ih =>
    intro zn k R hm z0 hr hf ht hk
    have on : mi_in zn := by
      unfold mi_in at om ⊢
      omega
    cases R with
    | nil =>
      have : tpc D [] = 0 := rfl
      omega
    | cons x R =>
      obtain ⟨j, C, q1, q2, q3, q4, q5⟩ := fo_first hf hr
      rw [List.length_cons] at hk
      have ok : mi_in (k : Int) := ⟨by omega, by omega⟩
      refine mt_kobB hS of om ok on (by intros; exfalso; omega) (by intros; exfalso; omega) (by intros; exfalso; omega) (by intros; exfalso; omega) ?_
      intro b c1 c2 c3 c4
      have et : Int.toNat (k : Int) = k := Int.toNat_natCast _
      rw [et, q2]
      unfold mi_in at om
      refine ⟨⟨⟨by omega, by omega⟩, ⟨by omega, by omega⟩, ⟨by omega, by omega⟩, by omega, by omega⟩, fun h1 g1 g2 => ?_⟩
      have e := me_nil g2
      subst e
      have e1 : (k : Int) + (1 + (j : Int)) = ((k + (1 + j) : Nat) : Int) := by omega
      rw [e1]
      refine (ih (zn + 1) (k + (1 + j)) C (by omega) (by omega) q5 q3 (by omega) (by omega)).imp (fun w h' hq => ⟨?_, hq.2⟩)
      rw [hq.1]
      refine congrArg (fun i : Nat => some (Sum.inl (i : Int) : mi_V)) ?_
      rw [List.length_cons]
      omega
/-- the place behind -/
theorem me_behindc {q : Nat} {D zm : Int} {A : List (Int × Int × Int)} (hS : ab_Sh sx_sk h) (hr : rh h q A) (hf : fo D A) (ht : tpc D A = zm) (n1 : mi_f h 12032 ≤ 100) (hk : (q : Int) + A.length ≤ mi_f h 12032) (om : mi_in zm) : me_E (d + 3) 129 0 [some (.inr (.inr 94)), some (.inl (q : Int)), some (.inl zm), none, none] [] h (fun w h' => w = some (.inl ((q + A.length : Nat) : Int)) ∧ h' = h) := by
  have of : mi_in (q : Int) := ⟨by omega, by omega⟩
  refine mt_kobA hS of om ?_
  intro h1 g1 g2
  have e := me_nil g2
  subst e
  have := tpc_nn (D := D) (A := A)
  exact cb5 (D := D) g1 of om n1 zm.toNat 0 q A (by omega) (by decide) hr hf (by omega) hk
end CBH
/-! leaves -/
theorem sh_mod4 {z : Int} (h0 : 0 ≤ z) (h1 : z ≤ 1000000) : (Int32.ofInt z - Int32.ofInt z / Int32.ofInt ((10000 : Int)) * Int32.ofInt ((10000 : Int))).toInt = z % 10000 := by
  have e10 : (Int32.ofInt ((10000 : Int))).toInt = 10000 := rfl
  have ez : (Int32.ofInt z).toInt = z := mi_ti ⟨by omega, by omega⟩
  have ed := sh_divg (w := 10000) h0 h1 (by decide) (by decide)
  have em : (Int32.ofInt z / Int32.ofInt ((10000 : Int)) * Int32.ofInt ((10000 : Int))).toInt = z / 10000 * 10000 := by
    rw [Int32.toInt_mul, ed, e10]
    exact Int.bmod_eq_of_le (by omega) (by omega)
  rw [Int32.toInt_sub, ez, em]
  rw [Int.bmod_eq_of_le (by omega) (by omega)]
  omega
def wr_pw : List (Nat × Nat) := [(7425, 7426), (7552, 7553), (13827, 13828), (13829, 13830), (13831, 13837)]
/-- what the class knows of numbers, literals, tops -/
def vpp_G (Lr : Nat → Int) (g : wk_g) (Y : wk_Y) (h : sm_H) : Prop := (∀ p, 0 ≤ p → p < wk_u Y → (g 119 p.toNat = 1 → mi_a h 69 p.toNat = g 120 p.toNat ∧ 0 ≤ g 120 p.toNat ∧ g 120 p.toNat ≤ 9) ∧ (g 119 p.toNat = 8 → mi_a h 69 p.toNat = g 120 p.toNat ∧ (0 ≤ g 120 p.toNat ∧ g 120 p.toNat < 20) ∧ mi_a h 75 (g 120 p.toNat).toNat = Lr (g 120 p.toNat).toNat ∧ ((0 < Lr (g 120 p.toNat).toNat ∧ lgd 6 (Lr (g 120 p.toNat).toNat)) ∨ (Lr (g 120 p.toNat).toNat < 0 ∧ tx_alc (-(Lr (g 120 p.toNat).toNat)) ∧ wy (-(Lr (g 120 p.toNat).toNat)) = false)))) ∧ tt_G (fun p => mi_a h 92 p.toNat) g Y
theorem vpp_G_fr {Lr : Nat → Int} {g : wk_g} {Y : wk_Y} {h h' : sm_H} {wr : List (Nat × Nat)} (hG : vpp_G Lr g Y h) (hF : ab_Fr wr h h') (hS : ab_Sh sx_sk h) (hw : (ab_in wr 8832 || ab_in wr 9600 || ab_in wr 11776) = false) : vpp_G Lr g Y h' := by
  simp only [Bool.or_eq_false_iff] at hw
  have e92 : (fun p : Int => mi_a h' 92 p.toNat) = fun p : Int => mi_a h 92 p.toNat := funext fun p => me_a (k := 92) hF hS rfl hw.2
  refine ⟨fun p p0 p1 => ?_, by rw [e92]; exact hG.2⟩
  rw [me_a (k := 69) hF hS rfl hw.1.1, me_a (k := 75) hF hS rfl hw.1.2]
  exact hG.1 p p0 p1
/-- values that can be printed -/
def vpp_e (g : wk_g) (e : Int × Int) : Prop := (g 119 e.1.toNat = 1 → 0 ≤ e.2 ∧ e.2 ≤ 9999) ∧ (g 119 e.1.toNat = 2 → 0 < e.2 ∧ lgd 6 e.2)
def vpp_in (h : sm_H) (u : Int) (q : Nat) (o : ox) : Prop := ab_Sh sx_sk h ∧ oC h (some o) ∧ oCw h (some o) ∧ mi_f h 13829 = u ∧ mi_f h 13831 = (q : Int) ∧ 0 ≤ mi_f h 13832
def vq (Lr : Nat → Int) (g : wk_g) (h0 : sm_H) (u : Int) (q : Nat) (L : List (Int × Int)) (x : Option ox) (w : Option mi_V) (h' : sm_H) : Prop := w = none ∧ ab_Sh sx_sk h' ∧ ab_Fr wr_pw h0 h' ∧ mi_f h' 13829 = u ∧ oC h' (ofd Lr g L x) ∧ oCw h' (ofd Lr g L x) ∧ (0 ≤ mi_f h' 13832 ∧ mi_f h' 13832 ≤ mi_f h0 13832 + L.length) ∧ (ofd Lr g L x ≠ none → mi_f h' 13831 = (q : Int))
theorem oCw_fr {h h' : sm_H} {x : Option ox} {wr : List (Nat × Nat)} (hR : oCw h x) (hF : ab_Fr wr h h') (hS : ab_Sh sx_sk h) (hw : ab_in wr 13835 = false) : oCw h' x := fun o ho hn => by
  rw [me_f (c := 13835) hF hS rfl hw]
  exact hR o ho hn
section CLF
variable {Lr : Nat → Int} {g : wk_g} {Y : wk_Y} {d : Nat} {h : sm_H} {u p v : Int} {q : Nat} {o : ox}
/-- what is no token -/
theorem oC_ly {h1 : sm_H} {s : Int} {wr : List (Nat × Nat)} (hS : ab_Sh sx_sk h) (hR : oC h (some o)) (hW : oCw h (some o)) (hF : ab_Fr wr h h1) (hw : (ab_in wr 7425 || ab_in wr 7552 || ab_in wr 13827 || ab_in wr 13835 || ab_in wr 13836) = false) (e4 : mi_f h1 13834 = (oly s o).2.1) (e3 : mi_f h1 13833 = (oly s o).2.2.1) (e2 : mi_f h1 13832 = (oly s o).2.2.2) : oC h1 (some (oly s o)) ∧ oCw h1 (some (oly s o)) := by
  simp only [Bool.or_eq_false_iff] at hw
  obtain ⟨⟨⟨⟨w1, w2⟩, w3⟩, w4⟩, w5⟩ := hw
  obtain ⟨a, b, c1, c2, c3, c4, c5⟩ := oC_len hR
  refine ⟨Or.inr ⟨_, rfl, (me_f (c := 13827) hF hS rfl w3).trans a, (me_f (c := 13836) hF hS rfl w5).trans b, (me_f (c := 7425) hF hS rfl w1).trans c1, fun k hk => by rw [me_a (k := 59) hF hS rfl w2]; exact c2 k hk, e4, e3, e2⟩, fun o' ho hn => ?_⟩
  injection ho with ho
  subst ho
  rw [me_f (c := 13835) hF hS rfl w4]
  exact hW o rfl hn
theorem me_wleaf (hi : vpp_in h u q o) (hu : wk_u Y ≤ 60) (hG : vpp_G Lr g Y h) (e68 : mi_a h 68 p.toNat = g 119 p.toNat) (p0 : 0 ≤ p) (p1 : p < wk_u Y) (h9 : g 119 p.toNat ≠ 9) (h10 : g 119 p.toNat ≠ 10) (hv : vpp_e g (p, v)) (hr : (g 119 p.toNat = 1 ∨ g 119 p.toNat = 2) → q < 100 ∧ mi_a h 96 q = v) (hl : mi_f h 13832 + 1 ≤ 100000) : me_E (d + 4) 136 0 [some (.inr (.inr 108)), some (.inl p), none] [] h (vq Lr g h u (if g 119 p.toNat = 1 ∨ g 119 p.toNat = 2 then q + 1 else q) [(p, v)] (some o)) := by
  obtain ⟨hS, hR, hW, hU, hq, l0⟩ := hi
  have op : mi_in p := ⟨by omega, by omega⟩
  have o69 : mi_in (mi_a h 69 p.toNat) := mi_inT _
  obtain ⟨n1, n8⟩ := hG.1 p p0 p1
  have e1 : ofd Lr g [(p, v)] (some o) = oev Lr (g 119 p.toNat) (g 120 p.toNat) v o := rfl
  obtain ⟨-, -, c1, c2, c3, c4, c5⟩ := oC_len hR
  refine mt_kolA hS op (by intros; exfalso; omega) (by intros; exfalso; omega) ?_
  intro b1 b2
  refine ⟨⟨by omega, by omega⟩, fun h1 g1 g2 => ?_⟩
  have e := me_nil g2
  subst e
  rw [e68]
  -- what is no token
  have ly : ∀ (h2 : sm_H) (wr : List (Nat × Nat)), (g 119 p.toNat ≠ 1 ∧ g 119 p.toNat ≠ 2 ∧ g 119 p.toNat ≠ 8) → ab_Sh sx_sk h2 → ab_Fr wr h1 h2 → ab_Fr wr_pw h1 h2 → ab_in wr 13829 = false → ab_in wr 13831 = false → (ab_in wr 7425 || ab_in wr 7552 || ab_in wr 13827 || ab_in wr 13835 || ab_in wr 13836) = false → mi_f h2 13834 = (oly (g 119 p.toNat) o).2.1 → mi_f h2 13833 = (oly (g 119 p.toNat) o).2.2.1 → mi_f h2 13832 = (oly (g 119 p.toNat) o).2.2.2 → (0 ≤ mi_f h2 13832 ∧ mi_f h2 13832 ≤ mi_f h1 13832 + 1) → vq Lr g h1 u (if g 119 p.toNat = 1 ∨ g 119 p.toNat = 2 then q + 1 else q) [(p, v)] (some o) none h2 := by
    intro h2 wr n s2 F2 F2' w1 w2 w3 x4 x3 x2 x1
    have eo : ofd Lr g [(p, v)] (some o) = some (oly (g 119 p.toNat) o) := by
      rw [e1]
      unfold oev
      rw [if_neg (by omega)]
    obtain ⟨y1, y2⟩ := oC_ly (s := g 119 p.toNat) g1 hR hW F2 w3 x4 x3 x2
    refine ⟨rfl, s2, F2', (me_f (c := 13829) F2 g1 rfl w1).trans hU, by rw [eo]; exact y1, by rw [eo]; exact y2, x1, fun _ => ?_⟩
    rw [if_neg (by omega)]
    exact (me_f (c := 13831) F2 g1 rfl w2).trans hq
  -- a token
  have tk : ∀ (h1' h2 : sm_H) (W : List Int) (qn : Nat), (g 119 p.toNat = 1 ∨ g 119 p.toNat = 2 ∨ g 119 p.toNat = 8) → tkw Lr (g 119 p.toNat) (g 120 p.toNat) v = W → ab_Sh sx_sk h1' → ab_Fr [(13831, 13832)] h1 h1' → mi_f h1' 13831 = (qn : Int) → (if g 119 p.toNat = 1 ∨ g 119 p.toNat = 2 then q + 1 else q) = qn → ab_Sh sx_sk h2 → ab_Fr wr_cs h1' h2 → oC h2 ((some o).bind (otk W)) → oCw h2 ((some o).bind (otk W)) → vq Lr g h1 u (if g 119 p.toNat = 1 ∨ g 119 p.toNat = 2 then q + 1 else q) [(p, v)] (some o) none h2 := by
    intro h1' h2 W qn n ew s1 F1 e31 eq s2 F2 y1 y2
    have eo : ofd Lr g [(p, v)] (some o) = (some o).bind (otk W) := by
      rw [e1]
      unfold oev
      rw [if_pos n, ew]
      rfl
    have el : mi_f h2 13832 = mi_f h1 13832 := (me_f (c := 13832) F2 s1 rfl rfl).trans (me_f (c := 13832) F1 g1 rfl rfl)
    refine ⟨rfl, s2, (F1.wide (fun c hc => ab_swr_ok (by decide) hc)).trans (F2.wide (fun c hc => ab_swr_ok (by decide) hc)), ((me_f (c := 13829) F2 s1 rfl rfl).trans (me_f (c := 13829) F1 g1 rfl rfl)).trans hU, by rw [eo]; exact y1, by rw [eo]; exact y2, ⟨by omega, by rw [el]; show mi_f h1 13832 ≤ mi_f h1 13832 + 1; omega⟩, fun _ => ?_⟩
    rw [eq]
    exact (me_f (c := 13831) F2 s1 rfl rfl).trans e31
  have e31 : ∀ h2, ab_Fr [(13831, 13832)] h1 h2 → oC h2 (some o) ∧ oCw h2 (some o) ∧ mi_f h2 13832 = mi_f h1 13832 := fun h2 F => ⟨oC_fr hR F g1 rfl, oCw_fr hW F g1 rfl, me_f (c := 13832) F g1 rfl rfl⟩
  have os : mi_in (g 119 p.toNat) := by rw [← e68]; exact mi_inT _
  have ol4 : oly (g 119 p.toNat) o = (o.1, if g 119 p.toNat = 4 then 1 else o.2.1, if g 119 p.toNat = 5 then 1 else o.2.2.1, if g 119 p.toNat = 6 then o.2.2.2 + 1 else if g 119 p.toNat = 7 ∧ 0 < o.2.2.2 then o.2.2.2 - 1 else o.2.2.2) := rfl
  refine mt_kolB g1 op o69 os (by intros; exfalso; omega) (by intros; exfalso; omega) ?_ (by intros; exfalso; omega) (by intros; exfalso; omega) ?_ ?_ ?_ ?_ ?_ ?_ ?_ (by intros; exfalso; omega) (by intros; exfalso; omega) ?_ ?_
  · -- a number
    intro a1 a2 a3 a4
    have s1 : g 119 p.toNat = 1 := by omega
    obtain ⟨m1, m2, m3⟩ := n1 s1
    obtain ⟨r1, r2⟩ := hr (Or.inl s1)
    obtain ⟨v0, v1⟩ := hv.1 s1
    dsimp only at v0 v1
    have et : Int.toNat (mi_f h1 13831 + 1 - 1) = q := by omega
    rw [et, r2, m1]
    refine ⟨⟨⟨by omega, by omega⟩, ⟨by omega, by omega⟩, ⟨by omega, by omega⟩, ⟨by omega, by omega⟩, by omega, by omega⟩, fun h2 s2 x1 x2 => ?_⟩
    have em : (Int32.ofInt (v - g 120 p.toNat + ((10000 : Int))) - Int32.ofInt (v - g 120 p.toNat + ((10000 : Int))) / Int32.ofInt ((10000 : Int)) * Int32.ofInt ((10000 : Int))).toInt = (v - g 120 p.toNat + 10000) % 10000 := sh_mod4 (by omega) (by omega)
    rw [em]
    obtain ⟨y1, y2, y3⟩ := e31 h2 x2
    refine ⟨_, me_numc (d := d) s2 (by omega) (by omega) (by omega) (by omega) y1 y2, fun w h3 hw hq3 => ?_⟩
    obtain ⟨rfl, z1, z2, z3, z4⟩ := hq3
    refine mt_kolC z1 op (by rw [← m1]; exact o69) ?_
    intro h4 k1 k2
    have e := me_nil k2
    subst e
    refine tk h2 h4 _ (q + 1) (Or.inl s1) ?_ s2 x2 (by omega) (if_pos (Or.inl s1)) z1 z2 z3 z4
    unfold tkw
    rw [if_neg (by omega), if_neg (by omega)]
  · -- a name
    intro a1 a2 a3 a4
    have s1 : g 119 p.toNat = 2 := by omega
    obtain ⟨r1, r2⟩ := hr (Or.inr s1)
    obtain ⟨v0, v1⟩ := hv.2 s1
    dsimp only at v0 v1
    have et : Int.toNat (mi_f h1 13831 + 1 - 1) = q := by omega
    rw [et, r2]
    refine ⟨⟨⟨by omega, by omega⟩, ⟨by omega, by omega⟩, by omega, by omega⟩, fun h2 s2 x1 x2 => ?_⟩
    obtain ⟨y1, y2, y3⟩ := e31 h2 x2
    refine ⟨_, me_codec (d := d) s2 (Or.inl ⟨v0, v1⟩) (by omega) (by omega) y1 y2, fun w h3 hw hq3 => ?_⟩
    obtain ⟨rfl, z1, z2, z3, z4⟩ := hq3
    rw [if_pos v0] at z3 z4
    refine mt_kolD z1 op o69 ?_
    intro h4 k1 k2
    have e := me_nil k2
    subst e
    refine tk h2 h4 _ (q + 1) (Or.inr (Or.inl s1)) ?_ s2 x2 (by omega) (if_pos (Or.inr s1)) z1 z2 z3 z4
    unfold tkw
    rw [if_neg (by omega), if_pos s1]
  · -- nothing
    intro a1 h2 s2 x1
    have e := me_nil x1
    subst e
    refine ly h2 [] (by omega) s2 ab_Fr.refl ab_Fr.refl rfl rfl rfl ?_ ?_ ?_ (by omega)
    · rw [ol4, if_neg (by omega)]; exact c3
    · rw [ol4]; dsimp only; rw [if_neg (by omega)]; exact c4
    · rw [ol4]; dsimp only; rw [if_neg (by omega), if_neg (by omega)]; exact c5
  · -- a blank
    intro a1 h2 s2 x1 x2
    have l2 : mi_f h2 13832 = mi_f h1 13832 := me_f (c := 13832) x2 g1 rfl rfl
    refine ly h2 _ (by omega) s2 x2 (x2.wide (fun c hc => ab_swr_ok (by decide) hc)) rfl rfl rfl ?_ ?_ ?_ (by omega)
    · rw [ol4, if_pos (by omega)]; exact x1
    · rw [ol4]; dsimp only; rw [if_neg (by omega), me_f (c := 13833) x2 g1 rfl rfl]; exact c4
    · rw [ol4]; dsimp only; rw [if_neg (by omega), if_neg (by omega), l2]; exact c5
  · -- a line
    intro a1 h2 s2 x1 x2
    have l2 : mi_f h2 13832 = mi_f h1 13832 := me_f (c := 13832) x2 g1 rfl rfl
    refine ly h2 _ (by omega) s2 x2 (x2.wide (fun c hc => ab_swr_ok (by decide) hc)) rfl rfl rfl ?_ ?_ ?_ (by omega)
    · rw [ol4, if_neg (by omega), me_f (c := 13834) x2 g1 rfl rfl]; exact c3
    · rw [ol4]; dsimp only; rw [if_pos (by omega)]; exact x1
    · rw [ol4]; dsimp only; rw [if_neg (by omega), if_neg (by omega), l2]; exact c5
  · -- deeper
    intro a0 a1
    refine ⟨⟨by omega, by omega⟩, fun h2 s2 x1 x2 => ?_⟩
    refine ly h2 _ (by omega) s2 x2 (x2.wide (fun c hc => ab_swr_ok (by decide) hc)) rfl rfl rfl ?_ ?_ ?_ (by omega)
    · rw [ol4, if_neg (by omega), me_f (c := 13834) x2 g1 rfl rfl]; exact c3
    · rw [ol4]; dsimp only; rw [if_neg (by omega), me_f (c := 13833) x2 g1 rfl rfl]; exact c4
    · rw [ol4]; dsimp only; rw [if_pos (by omega), x1, c5]
  · -- back, at the edge
    intro a0 a1 a2
    refine ⟨⟨by omega, by omega⟩, fun h2 s2 x1 x2 => ?_⟩
    refine ly h2 _ (by omega) s2 x2 (x2.wide (fun c hc => ab_swr_ok (by decide) hc)) rfl rfl rfl ?_ ?_ ?_ (by omega)
    · rw [ol4, if_neg (by omega), me_f (c := 13834) x2 g1 rfl rfl]; exact c3
    · rw [ol4]; dsimp only; rw [if_neg (by omega), me_f (c := 13833) x2 g1 rfl rfl]; exact c4
    · rw [ol4]; dsimp only; rw [if_neg (by omega), if_neg (by omega), x1]; omega
  · -- back
    intro a0 a1 a2
    refine ⟨⟨by omega, by omega⟩, fun h2 s2 x1 x2 => ?_⟩
    refine ly h2 _ (by omega) s2 x2 (x2.wide (fun c hc => ab_swr_ok (by decide) hc)) rfl rfl rfl ?_ ?_ ?_ (by omega)
    · rw [ol4, if_neg (by omega), me_f (c := 13834) x2 g1 rfl rfl]; exact c3
    · rw [ol4]; dsimp only; rw [if_neg (by omega), me_f (c := 13833) x2 g1 rfl rfl]; exact c4
    · rw [ol4]; dsimp only; rw [if_neg (by omega), if_pos (by omega), x1, c5]
  · -- a literal
    intro a1 a2 a3
    have s1 : g 119 p.toNat = 8 := by omega
    obtain ⟨m1, m2, m3, m4⟩ := n8 s1
    rw [m1, m3]
    refine ⟨⟨by omega, by omega⟩, fun h2 s2 x1 => ?_⟩
    have e := me_nil x1
    subst e
    refine ⟨_, me_codec (d := d) s2 m4 (by omega) (by omega) hR hW, fun w h3 hw hq3 => ?_⟩
    obtain ⟨rfl, z1, z2, z3, z4⟩ := hq3
    refine mt_kolE z1 op (by rw [← m1]; exact o69) ?_
    intro h4 k1 k2
    have e := me_nil k2
    subst e
    refine tk h2 h4 _ q (Or.inr (Or.inr s1)) ?_ s2 ab_Fr.refl hq (if_neg (by omega)) z1 z2 z3 z4
    unfold tkw
    rw [if_pos s1]
  · -- nothing else
    intro a1 h2 s2 x1
    have e := me_nil x1
    subst e
    refine ly h2 [] (by omega) s2 ab_Fr.refl ab_Fr.refl rfl rfl rfl ?_ ?_ ?_ (by omega)
    · rw [ol4, if_neg (by omega)]; exact c3
    · rw [ol4]; dsimp only; rw [if_neg (by omega)]; exact c4
    · rw [ol4]; dsimp only; rw [if_neg (by omega), if_neg (by omega)]; exact c5
end CLF
/-! the class's printing walk follows the replay: a use, a part -/
def vpp_H (f : Int → Int) (it : Int → Prop) (g : wk_g) (Y : wk_Y) (kw : Int → Bool) (Lr : Nat → Int) (h : sm_H) : Prop := cg_G f it g Y kw h ∧ vpp_G Lr g Y h ∧ mi_f h 12032 ≤ 100
/-- the nodes that are to be printed, what they tell -/
def vpp_A (g : wk_g) (h : sm_H) (s s' : gm_S) (q : Nat) (L : List (Int × Int)) (A : List (Int × Int × Int)) : Prop := gm_T s' = gm_T s ++ A ∧ rh h q A ∧ (q : Int) + A.length ≤ mi_f h 12032 ∧ (∀ e ∈ L, vpp_e g e) ∧ mi_f h 13832 + L.length ≤ 100000 ∧ ∀ x ∈ A, x.1 % 10 = 5 → x.2.1 ≤ 161
def vpp_F (f : Int → Int) (it : Int → Prop) (g : wk_g) (Y : wk_Y) (kw : Int → Bool) (Lr : Nat → Int) (V : Int → Int) (D : Nat) (zd : Int) : Prop := ∀ (h : sm_H) (s s' : gm_S) (u F : Int) (q n : Nat) (L : List (Int × Int)) (A : List (Int × Int × Int)) (o : ox), vpp_in h u q o → vpp_H f it g Y kw Lr h → 0 ≤ F → F < wk_f Y → 1 ≤ u → u ≤ 12 → zd ≤ 5 * (u - 1) + wk_d Y F → rn g V n u [(1, F, 0)] s s' L → vpp_A g h s s' q L A → me_E D 120 0 [some (.inr (.inr 108)), some (.inl (f F)), some (.inl zd), none, none, none, none, none, none, none, none] [] h (vq Lr g h u (q + A.length) L (some o))
section VW0
variable {f : Int → Int} {it : Int → Prop} {g : wk_g} {Y : wk_Y} {kw : Int → Bool} {Lr : Nat → Int} {V : Int → Int} {d : Nat}
theorem vpp_F_deep {D D' : Nat} {zd : Int} (h : vpp_F f it g Y kw Lr V D zd) (hd : D ≤ D') : vpp_F f it g Y kw Lr V D' zd := fun h1 s s' u F q n L A o a1 a2 a3 a4 a5 a6 a7 a8 a9 => (h h1 s s' u F q n L A o a1 a2 a3 a4 a5 a6 a7 a8 a9).deep hd
theorem vpp_H_fr {h h' : sm_H} {wr : List (Nat × Nat)} (hH : vpp_H f it g Y kw Lr h) (hF : ab_Fr wr h h') (hS : ab_Sh sx_sk h) (hw : cg_w wr = true) (hw2 : (ab_in wr 8832 || ab_in wr 9600 || ab_in wr 11776) = false) (hw3 : ab_in wr 12032 = false) : vpp_H f it g Y kw Lr h' := ⟨cg_G_fr hH.1 hF hS hw, vpp_G_fr hH.2.1 hF hS hw2, by rw [me_f (c := 12032) hF hS rfl hw3]; exact hH.2.2⟩
theorem vpp_rep {h : sm_H} (hH : vpp_H f it g Y kw Lr h) : ∀ p, 0 ≤ p → p < wk_u Y → 0 ≤ g 122 p.toNat ∧ g 122 p.toNat ≤ 2 := fun p p0 p1 => (hH.1.2.2.1 p p0 p1).2.2.2.2.1
/-- what a form appends -/
theorem vpp_tF {h : sm_H} (hH : vpp_H f it g Y kw Lr h) (N : Nat) : tpq_F g V Y (fun p => mi_a h 92 p.toNat) N := tpq_all hH.1.1 hH.2.1.2 (vpp_rep hH) N
/-- it has stopped -/
def vst (h0 : sm_H) (u : Int) (n : Nat) (h : sm_H) : Prop := ab_Sh sx_sk h ∧ ab_Fr wr_pw h0 h ∧ mi_f h 13829 = u ∧ oC h none ∧ 0 ≤ mi_f h 13832 ∧ mi_f h 13832 ≤ mi_f h0 13832 + n
theorem vq_st {h0 h : sm_H} {u : Int} {q n : Nat} {L : List (Int × Int)} {x : Option ox} (h1 : vst h0 u n h) (h2 : n ≤ L.length) (h3 : ofd Lr g L x = none) : vq Lr g h0 u q L x none h := by
  obtain ⟨a1, a2, a3, a4, a5, a6⟩ := h1
  refine ⟨rfl, a1, a2, a3, by rw [h3]; exact a4, fun o ho => ?_, ⟨a5, by omega⟩, fun q => absurd h3 q⟩
  rw [h3] at ho
  cases ho
theorem stv_vq {h0 h : sm_H} {u : Int} {q : Nat} {L : List (Int × Int)} {x : Option ox} {w : Option mi_V} (h1 : vq Lr g h0 u q L x w h) (h3 : ofd Lr g L x = none) : vst h0 u L.length h := by
  obtain ⟨-, a1, a2, a3, a4, -, ⟨a5, a6⟩, -⟩ := h1
  rw [h3] at a4
  exact ⟨a1, a2, a3, a4, a5, a6⟩
/-- it goes on -/
theorem in_vq {h0 h : sm_H} {u : Int} {q : Nat} {L : List (Int × Int)} {x : Option ox} {w : Option mi_V} {o : ox} (h1 : vq Lr g h0 u q L x w h) (h3 : ofd Lr g L x = some o) : vpp_in h u q o := by
  obtain ⟨-, a1, a2, a3, a4, a5, ⟨a6, -⟩, a7⟩ := h1
  rw [h3] at a4 a5 a7
  exact ⟨a1, a4, a5, a3, a7 (by simp), a6⟩
theorem vq_step {h0 h h' : sm_H} {u : Int} {q : Nat} {L0 L : List (Int × Int)} {x : Option ox} {o : ox} {w : Option mi_V} (h1 : ofd Lr g L0 x = some o) (hF : ab_Fr wr_pw h0 h) (hl : mi_f h 13832 ≤ mi_f h0 13832 + L0.length) (h2 : vq Lr g h u q L (some o) w h') : vq Lr g h0 u q (L0 ++ L) x w h' := by
  obtain ⟨a0, a1, a2, a3, a4, a5, ⟨a6, a7⟩, a8⟩ := h2
  have e : ofd Lr g (L0 ++ L) x = ofd Lr g L (some o) := by rw [ofd_app, h1]
  unfold vq
  rw [e]
  exact ⟨a0, a1, hF.trans a2, a3, a4, a5, ⟨a6, by rw [List.length_append]; omega⟩, a8⟩
theorem in_fr {h h' : sm_H} {u : Int} {q q' : Nat} {o : ox} (hi : vpp_in h u q o) (hF : ab_Fr [(13831, 13832)] h h') (hS' : ab_Sh sx_sk h') (hq : mi_f h' 13831 = (q' : Int)) : vpp_in h' u q' o ∧ mi_f h' 13832 = mi_f h 13832 := by
  obtain ⟨hS, a1, a2, a3, a4, a5⟩ := hi
  have e := me_f (c := 13832) hF hS rfl rfl
  exact ⟨⟨hS', oC_fr a1 hF hS rfl, oCw_fr a2 hF hS rfl, (me_f (c := 13829) hF hS rfl rfl).trans a3, hq, by omega⟩, e⟩
theorem stv_fr {h0 h h' : sm_H} {u : Int} {n : Nat} (hi : vst h0 u n h) (hF : ab_Fr [(13831, 13832)] h h') (hS' : ab_Sh sx_sk h') : vst h0 u n h' := by
  obtain ⟨hS, a1, a2, a3, a4, a5⟩ := hi
  have e := me_f (c := 13832) hF hS rfl rfl
  exact ⟨hS', a1.trans (hF.wide (fun c hc => ab_swr_ok (by decide) hc)), (me_f (c := 13829) hF hS rfl rfl).trans a2, oC_fr a3 hF hS rfl, by omega, by omega⟩
/-- a use -/
theorem me_wuse {h : sm_H} {t s2 : gm_S} {u i zd : Int} {q m : Nat} {o : ox} {L : List (Int × Int)} {B : List (Int × Int × Int)} (hWF : vpp_F f it g Y kw Lr V (d + 7) zd) (hi : vpp_in h u q o) (hH : vpp_H f it g Y kw Lr h) (i0 : 0 ≤ i) (i1 : i < 10) (r0 : 0 ≤ g 114 i.toNat) (r1 : g 114 i.toNat < wk_f Y) (rf : f (g 114 i.toNat) = i) (u0 : 0 ≤ u) (u1 : u < 12) (z0 : -1 ≤ zd) (z1 : zd ≤ 5 * u) (z2 : zd ≤ 1000) (hr : rn g V m (u + 1) [(1, g 114 i.toNat, 0)] (gm_d t) s2 L) (hA : vpp_A g h (gm_d t) s2 (q + 1) L B) : me_E (d + 8) 113 0 [some (.inr (.inr 108)), some (.inl i), some (.inl zd), none] [] h (vq Lr g h u (q + 1 + B.length) L (some o)) := by
  obtain ⟨hS, j1, j2, j3, j4, j5⟩ := id hi
  obtain ⟨x1, x2, x3, x4, x5, x6⟩ := hA
  have oi : mi_in i := ⟨by omega, by omega⟩
  have od : mi_in zd := ⟨by omega, by omega⟩
  have hd0 := (hH.1.1.2.2.2 _ r0 r1).1
  have n1 := hH.2.2
  refine mt_kruA (d := d) hS oi od ?_ (by intros; exfalso; omega)
  intro b c1 h1 g1 g2
  have e := me_nil g2
  subst e
  refine ⟨fun w h' => w = some (.inl (q : Int)) ∧ ab_Sh sx_sk h' ∧ mi_f h' 13831 = ((q + 1 : Nat) : Int) ∧ ab_Fr [(13831, 13832)] h1 h', mt_koen (d := d + 5) g1 ⟨by decide, by decide⟩ oi ?_, fun w h2 hw hq => ?_⟩
  · intro b1
    refine ⟨⟨⟨by omega, by omega⟩, by omega, by omega⟩, fun h2 s1 s2 s3 => ⟨congrArg (fun z : Int => some (Sum.inl z : mi_V)) (by omega), s1, by omega, s3⟩⟩
  obtain ⟨rfl, q1, q2, q3⟩ := hq
  obtain ⟨hi2, hl2⟩ := in_fr hi q3 q1 q2
  refine mt_kruB (d := d) q1 oi od ⟨by omega, by omega⟩ ?_
  intro b1
  have u2 := hi2.2.2.2.1
  refine ⟨⟨by omega, by omega⟩, fun h3 t1 t2 t3 => ?_⟩
  have hi3 : vpp_in h3 (u + 1) (q + 1) o := ⟨t1, oC_fr hi2.2.1 t3 q1 rfl, oCw_fr hi2.2.2.1 t3 q1 rfl, by omega, (me_f (c := 13831) t3 q1 rfl rfl).trans q2, by rw [me_f (c := 13832) t3 q1 rfl rfl]; exact hi2.2.2.2.2.2⟩
  have l3 : mi_f h3 13832 = mi_f h1 13832 := (me_f (c := 13832) t3 q1 rfl rfl).trans hl2
  have n3 : mi_f h3 12032 = mi_f h1 12032 := (me_f (c := 12032) t3 q1 rfl rfl).trans (me_f (c := 12032) q3 g1 rfl rfl)
  have F3 : ab_Fr wr_pw h1 h3 := (q3.wide (fun c hc => ab_swr_ok (by decide) hc)).trans (t3.wide (fun c hc => ab_swr_ok (by decide) hc))
  have hH3 : vpp_H f it g Y kw Lr h3 := vpp_H_fr hH F3 g1 rfl rfl rfl
  have key := hWF h3 (gm_d t) s2 (u + 1) (g 114 i.toNat) (q + 1) m L B o hi3 hH3 r0 r1 (by omega) (by omega) (by omega) hr ⟨x1, rh_fr x2 F3 g1 rfl, by omega, x4, by omega, x6⟩
  rw [rf] at key
  refine ⟨_, key, fun w h4 hw4 hq4 => ?_⟩
  obtain ⟨rfl, v1, v2, v3, v4, v5, ⟨v6, v7⟩, v8⟩ := hq4
  refine mt_kruC (d := d) v1 oi od ⟨by omega, by omega⟩ ?_
  intro b2
  refine ⟨⟨by omega, by omega⟩, fun h5 y1 y2 y3 => ?_⟩
  have l5 : mi_f h5 13832 = mi_f h4 13832 := me_f (c := 13832) y3 v1 rfl rfl
  exact ⟨rfl, y1, (F3.trans v2).trans (y3.wide (fun c hc => ab_swr_ok (by decide) hc)), by omega, oC_fr v4 y3 v1 rfl, oCw_fr v5 y3 v1 rfl, ⟨by omega, by omega⟩, fun q => (me_f (c := 13831) y3 v1 rfl rfl).trans (v8 q)⟩
theorem app_cancel {T A B : List (Int × Int × Int)} {T' : List (Int × Int × Int)} (h1 : T' = T ++ A) (h2 : T' = T ++ B) : A = B := List.append_cancel_left (h1.symm.trans h2)
/-- a part, once -/
theorem me_wpart {h : sm_H} {s s' : gm_S} {u p zd : Int} {q n : Nat} {o : ox} {L : List (Int × Int)} {A : List (Int × Int × Int)} (hWF : vpp_F f it g Y kw Lr V (d + 7) (zd + 1)) (hi : vpp_in h u q o) (hH : vpp_H f it g Y kw Lr h) (p0 : 0 ≤ p) (p1 : p < wk_u Y) (u0 : 1 ≤ u) (u1 : u ≤ 12) (z0 : 0 ≤ zd) (z1 : zd ≤ 5 * (u - 1) + wk_d Y (wk_c Y p)) (hr : sgr g V n u p s s' L) (hA : vpp_A g h s s' q L A) : me_E (d + 9) 132 0 [some (.inr (.inr 108)), some (.inl p), some (.inl zd), none] [] h (vq Lr g h u (q + A.length) L (some o)) := by
  have hS := hi.1
  have hu60 := hH.1.1.1
  obtain ⟨e68, e9, e10, -⟩ := hH.1.2.2.1 p p0 p1
  obtain ⟨⟨-, -, -, w1, w2⟩, -, -, l9, l10, -⟩ := hH.1.1.2.2.1 p p0 p1
  have wd := (hH.1.1.2.2.2 _ w1 w2).2.1
  have op : mi_in p := ⟨by omega, by omega⟩
  have od : mi_in zd := ⟨by omega, by omega⟩
  have o68 : mi_in (mi_a h 68 p.toNat) := mi_inT _
  have n1 := hH.2.2
  obtain ⟨x1, x2, x3, x4, x5, x6⟩ := id hA
  refine mt_krzA (d := d) hS op od (by intros; exfalso; omega) (by intros; exfalso; omega) ?_ ?_ ?_
  · -- a leaf
    intro c1 c2 c3 c4
    refine ⟨⟨by omega, by omega⟩, fun h1 g1 g2 => ?_⟩
    have e := me_nil g2
    subst e
    obtain ⟨y1, y2⟩ := sgr_lf (by omega) (by omega) hr
    subst y1
    have hlen : mi_f h1 13832 + 1 ≤ 100000 := x5
    have hAl : (g 119 p.toNat = 1 ∨ g 119 p.toNat = 2) → A.length = 1 ∧ mi_a h1 96 q = V (gm_len s) := by
      intro c
      have key : ∀ k, gm_c k (V (gm_len s)) s = some s' → A.length = 1 ∧ mi_a h1 96 q = V (gm_len s) := by
        intro k hk
        obtain ⟨-, -, t3, -, -⟩ := gm_c_t hk
        have e := app_cancel x1 t3
        subst e
        exact ⟨rfl, (rh_cons fo_nil x2).1⟩
      rcases y2 with ⟨-, b⟩ | ⟨-, b⟩ | ⟨a, b, -⟩
      · exact key _ b
      · exact key _ b
      · exfalso; omega
    have hA0 : ¬ (g 119 p.toNat = 1 ∨ g 119 p.toNat = 2) → A.length = 0 := by
      intro c
      rcases y2 with ⟨a, b⟩ | ⟨a, b⟩ | ⟨-, -, b⟩
      · exact absurd (Or.inl a) c
      · exact absurd (Or.inr a) c
      · rw [b] at x1
        have e := app_cancel x1 (List.append_nil _).symm
        rw [e]
        rfl
    have eq : (if g 119 p.toNat = 1 ∨ g 119 p.toNat = 2 then q + 1 else q) = q + A.length := by
      by_cases c : g 119 p.toNat = 1 ∨ g 119 p.toNat = 2
      · rw [if_pos c, (hAl c).1]
      · rw [if_neg c, hA0 c]
        rfl
    have key := me_wleaf (d := d + 4) hi hu60 hH.2.1 e68 p0 p1 (by omega) (by omega) (x4 _ List.mem_cons_self) (fun c => ⟨by have := (hAl c).1; omega, (hAl c).2⟩) hlen
    rw [eq] at key
    refine ⟨_, key, fun w h2 hw hq => ?_⟩
    have e := hq.1
    subst e
    refine mt_krzD hq.2.1 op od o68 ?_
    intro h3 r1 r2
    have e := me_nil r2
    subst e
    exact hq
  · -- a group
    intro c1 c2 c3 c4
    rw [e68] at c4
    obtain ⟨y1, y2, y3, y4⟩ := l10 c4
    have hf := cg_ok hH.1 y1 y2
    refine ⟨⟨⟨by omega, by omega⟩, by omega, by omega⟩, fun h1 g1 g2 => ?_⟩
    have e := me_nil g2
    subst e
    rw [e10 c4]
    refine ⟨_, (vpp_F_deep hWF (by omega : d + 7 ≤ d + 8)) h1 s s' u (g 120 p.toNat) q n L A o hi hH y1 y2 u0 u1 (by omega) (sgr_10 c4 hr) hA, fun w h2 hw hq => ?_⟩
    have e := hq.1
    subst e
    refine mt_krzC hq.2.1 op od o68 ?_
    intro h3 r1 r2
    have e := me_nil r2
    subst e
    exact hq
  · -- a use
    intro c1 c2 c3
    rw [e68] at c3
    obtain ⟨y1, y2, y3, y4, y5, y6, y7⟩ := l9 c3
    obtain ⟨w1, w2⟩ := e9 c3
    obtain ⟨k1, t, m, s2, k2, k3, k4, k5⟩ := sgr_9 c3 hr
    obtain ⟨k6, -, B, k7, k8, -⟩ := vpp_tF (V := V) hH (m + 1) m (by omega) _ _ _ _ _ y5 y6 k4
    subst k5
    have e := app_cancel x1 (node_T k2 k7)
    subst e
    obtain ⟨-, -, -, t4, -⟩ := gm_c_t k2
    obtain ⟨-, -, d3, -⟩ := gm_d_e (t := t)
    rw [d3, t4] at k8
    obtain ⟨-, -, m3⟩ := rh_cons k8 x2
    refine ⟨⟨⟨by omega, by omega⟩, by omega, by omega⟩, fun h1 g1 g2 => ?_⟩
    have e := me_nil g2
    subst e
    rw [w1]
    rw [List.length_cons] at x3
    have key := me_wuse (d := d) hWF hi hH y3 y4 y5 y6 w2 (by omega) k1 (by omega) (by omega) (by omega) k4 ⟨k7, m3, by omega, x4, x5, fun x hx => x6 x (List.mem_cons_of_mem _ hx)⟩
    refine ⟨_, key, fun w h2 hw hq => ?_⟩
    have e := hq.1
    subst e
    refine mt_krzB hq.2.1 op od o68 ?_
    intro h3 r1 r2
    have e := me_nil r2
    subst e
    rw [List.length_cons, show q + (B.length + 1) = q + 1 + B.length from by omega]
    exact hq
end VW0
/-! the class's printing walk: a unit -/
section VW1
variable {f : Int → Int} {it : Int → Prop} {g : wk_g} {Y : wk_Y} {kw : Int → Bool} {Lr : Nat → Int} {V : Int → Int} {d : Nat}
theorem vq_refl {h : sm_H} {u : Int} {q : Nat} {o : ox} (hi : vpp_in h u q o) : vq Lr g h u q [] (some o) none h := by
  obtain ⟨a1, a2, a3, a4, a5, a6⟩ := hi
  exact ⟨rfl, a1, ab_Fr.refl, a4, a2, a3, ⟨a6, by show _ ≤ _ + (0 : Int); omega⟩, fun _ => a5⟩
theorem in_run {h : sm_H} {u : Int} {q : Nat} {o : ox} (hi : vpp_in h u q o) : mi_f h 13827 = 0 := (oC_len hi.2.1).1
theorem vpp_A_split {h : sm_H} {s s1 s' : gm_S} {q : Nat} {D : Int} {L1 L2 : List (Int × Int)} {A1 A2 : List (Int × Int × Int)} (fA : fo D A1) (fB : fo D A2) (hA : vpp_A g h s s' q (L1 ++ L2) (A1 ++ A2)) (e1 : gm_T s1 = gm_T s ++ A1) (e2 : gm_T s' = gm_T s1 ++ A2) : vpp_A g h s s1 q L1 A1 ∧ ∀ h', ab_Sh sx_sk h → ab_Fr wr_pw h h' → mi_f h' 13832 ≤ mi_f h 13832 + L1.length → vpp_A g h' s1 s' (q + A1.length) L2 A2 := by
  obtain ⟨x1, x2, x3, x4, x5, x6⟩ := hA
  obtain ⟨r1, r2⟩ := rh_app fA fB x2
  rw [List.length_append] at x3 x5
  refine ⟨⟨e1, r1, by omega, fun e he => x4 e (List.mem_append_left _ he), by omega, fun x hx => x6 x (List.mem_append_left _ hx)⟩, fun h' hS hF hl => ⟨e2, rh_fr r2 hF hS rfl, ?_, fun e he => x4 e (List.mem_append_right _ he), by omega, fun x hx => x6 x (List.mem_append_right _ hx)⟩⟩
  rw [me_f (c := 12032) hF hS rfl rfl]
  omega
theorem wy98 {h : sm_H} {p zd zr zo zm zt : Int} {Q : Option mi_V → sm_H → Prop} (hS : ab_Sh sx_sk h) (op : mi_in p) (od : mi_in zd) (or_ : mi_in zr) (oo : mi_in zo) (om : mi_in zm) (ot : mi_in zt) (hq : Q none h) : me_E (d + 10) 131 98 [some (.inr (.inr 108)), some (.inl p), some (.inl zd), some (.inl zr), some (.inl zo), some (.inl zm), some (.inl zt)] [] h Q := by
  refine mt_kryG hS op od or_ oo om ot ?_
  intro h1 g1 g2
  have e := me_nil g2
  subst e
  exact hq
/-- once it has stopped -/
theorem wy60s {h : sm_H} {p zd zr zo zm zt : Int} {Q : Option mi_V → sm_H → Prop} (hS : ab_Sh sx_sk h) (op : mi_in p) (od : mi_in zd) (or_ : mi_in zr) (oo : mi_in zo) (om : mi_in zm) (ot : mi_in zt) (h1 : mi_f h 13827 = 1) (hq : Q none h) : me_E (d + 10) 131 60 [some (.inr (.inr 108)), some (.inl p), some (.inl zd), some (.inl zr), some (.inl zo), some (.inl zm), some (.inl zt)] [] h Q := by
  refine mt_kryE hS op od or_ oo om ot ?_ (by intros; exfalso; omega) (by intros; exfalso; omega) (by intros; exfalso; omega) (by intros; exfalso; omega) (by intros; exfalso; omega) (by intros; exfalso; omega) (by intros; exfalso; omega)
  intro b c h2 g1 g2
  have e := me_nil g2
  subst e
  exact wy98 hS op od or_ oo om ot hq
theorem me_wunit0 {h : sm_H} {zp zd : Int} (hS : ab_Sh sx_sk h) (h1 : mi_f h 13827 = 1) (op : mi_in zp) (od : mi_in zd) : me_E (d + 10) 131 0 [some (.inr (.inr 108)), some (.inl zp), some (.inl zd), none, none, none, none] [] h (fun w h' => w = none ∧ h' = h) := by
  refine mt_kryA hS op od (by intros; exfalso; omega) ?_ (by intros; exfalso; omega) ?_ (by intros; exfalso; omega) (by intros; exfalso; omega) ?_
  · intro b c1 c2 h2 g1 g2
    exact ⟨rfl, me_nil g2⟩
  · intro b c1 c2 c3 h2 g1 g2
    exact ⟨rfl, me_nil g2⟩
  · intro b c1 c2 c3
    exact ⟨⟨by omega, by omega⟩, fun h2 g1 g2 => ⟨rfl, me_nil g2⟩⟩
/-- the turns of a many -/
theorem wy60 {u p zd v : Int} {zo : Nat} (hWF : vpp_F f it g Y kw Lr V (d + 7) (zd + 1)) (p0 : 0 ≤ p) (p1 : p < wk_u Y) (u0 : 1 ≤ u) (u1 : u ≤ 12) (z0 : 0 ≤ zd) (z1 : zd ≤ 5 * (u - 1) + wk_d Y (wk_c Y p)) (z2 : zd ≤ 1000) (v1 : v ≤ 161) (hzo : zo < 100) : ∀ (N : Nat) (zt : Int) (h : sm_H) (q n : Nat) (sj s2 : gm_S) (L : List (Int × Int)) (B : List (Int × Int × Int)) (o : ox), v - zt ≤ N → 0 ≤ zt → zt ≤ 161 → vpp_in h u q o → vpp_H f it g Y kw Lr h → mi_a h 96 zo = v → rn g V n u [(5, p, v - zt)] sj s2 L → vpp_A g h sj s2 q L B → me_E (d + 10) 131 60 [some (.inr (.inr 108)), some (.inl p), some (.inl zd), some (.inl (5 : Int)), some (.inl (zo : Int)), some (.inl (161 : Int)), some (.inl zt)] [] h (vq Lr g h u (q + B.length) L (some o)) := by
  have od : mi_in zd := ⟨by omega, by omega⟩
  have oo : mi_in (zo : Int) := ⟨by omega, by omega⟩
  have et : Int.toNat (zo : Int) = zo := Int.toNat_natCast _
  intro N
  have done : ∀ (zt : Int) (h : sm_H) (q n : Nat) (sj s2 : gm_S) (L : List (Int × Int)) (B : List (Int × Int × Int)) (o : ox), v - zt ≤ 0 → 0 ≤ zt → zt ≤ 161 → vpp_in h u q o → vpp_H f it g Y kw Lr h → mi_a h 96 zo = v → rn g V n u [(5, p, v - zt)] sj s2 L → vpp_A g h sj s2 q L B → me_E (d + 10) 131 60 [some (.inr (.inr 108)), some (.inl p), some (.inl zd), some (.inl (5 : Int)), some (.inl (zo : Int)), some (.inl (161 : Int)), some (.inl zt)] [] h (vq Lr g h u (q + B.length) L (some o)) := by
    intro zt h q n sj s2 L B o hN t0 t1 hi hH hv hr hA
    have hS := hi.1
    have op : mi_in p := by have := hH.1.1.1; exact ⟨by omega, by omega⟩
    have ot : mi_in zt := ⟨by omega, by omega⟩
    have hs := in_run hi
    rcases rn_5 hr with ⟨c, -⟩ | ⟨-, c, cL⟩
    · exfalso; omega
    have hB : B = [] := app_cancel hA.1 (by rw [c, List.append_nil])
    subst hB
    subst cL
    refine mt_kryE hS op od ⟨by decide, by decide⟩ oo ⟨by decide, by decide⟩ ot (by intros; exfalso; omega) ?_ (by intros; exfalso; omega) (by intros; exfalso; omega) (by intros; exfalso; omega) (by intros; exfalso; omega) ?_ ?_
    · intro b c1 c2 h1 g1 g2
      have e := me_nil g2
      subst e
      exact wy98 hS op od ⟨by decide, by decide⟩ oo ⟨by decide, by decide⟩ ot (vq_refl hi)
    · intro b c1 c2 c3 c4 c5
      refine ⟨⟨by omega, by omega⟩, fun h1 g1 g2 => ?_⟩
      have e := me_nil g2
      subst e
      exact wy98 hS op od ⟨by decide, by decide⟩ oo ⟨by decide, by decide⟩ ot (vq_refl hi)
    · intro b c1 c2 c3 c4 c5
      rw [et, hv] at c5
      exfalso; omega
  induction N with
  | zero =>
    intro zt h q n sj s2 L B o hN
    exact done zt h q n sj s2 L B o (by omega)
  | succ N ih =>
    intro zt h q n sj s2 L B o hN t0 t1 hi hH hv hr hA
    by_cases hc : v - zt ≤ 0
    · exact done zt h q n sj s2 L B o hc t0 t1 hi hH hv hr hA
    have hS := hi.1
    have op : mi_in p := by have := hH.1.1.1; exact ⟨by omega, by omega⟩
    have ot : mi_in zt := ⟨by omega, by omega⟩
    have hs := in_run hi
    rcases rn_5 hr with ⟨-, m1, m2, s1, L1, L2, k1, k2, k3, k4, k5⟩ | ⟨c, -⟩
    · obtain ⟨a1, -, B1, a3, a4, -⟩ := tpq_sg hH.1.1 (vpp_tF (V := V) hH (m1 + 1)) (by omega) p0 p1 k3
      obtain ⟨j, b1, -, B2, b3, b4, -⟩ := tpq_5 hH.1.1 (vpp_tF (V := V) hH m2) p0 p1 (v - zt - 1).toNat _ m2 _ _ _ (by omega) (by omega) k4
      rw [a1] at b4
      have eB : B = B1 ++ B2 := app_cancel hA.1 (by rw [b3, a3, List.append_assoc])
      subst eB
      subst k5
      obtain ⟨hA1, hA2⟩ := vpp_A_split a4 b4 hA a3 b3
      refine mt_kryE hS op od ⟨by decide, by decide⟩ oo ⟨by decide, by decide⟩ ot (by intros; exfalso; omega) (by intros; exfalso; omega) (by intros; exfalso; omega) (by intros; exfalso; omega) (by intros; exfalso; omega) (by intros; exfalso; omega) ?_ ?_
      · intro b c1 c2 c3 c4 c5
        rw [et, hv] at c5
        exfalso; omega
      · intro b c1 c2 c3 c4 c5
        refine ⟨⟨by omega, by omega⟩, fun h1 g1 g2 => ?_⟩
        have e := me_nil g2
        subst e
        refine ⟨_, me_wpart (d := d) hWF hi hH p0 p1 u0 u1 z0 z1 k3 hA1, fun w h2 hw hq => ?_⟩
        have e := hq.1
        subst e
        have s2' := hq.2.1
        have F2 := hq.2.2.1
        have l2 := hq.2.2.2.2.2.2.1.2
        refine mt_kryF s2' op od ⟨by decide, by decide⟩ oo ⟨by decide, by decide⟩ ot ?_
        refine ⟨⟨by omega, by omega⟩, fun h3 r1 r2 => ?_⟩
        have e := me_nil r2
        subst e
        cases ho : ofd Lr g L1 (some o) with
        | none =>
          have st := stv_vq hq ho
          refine wy60s s2' op od ⟨by decide, by decide⟩ oo ⟨by decide, by decide⟩ ⟨by omega, by omega⟩ (oC_no st.2.2.2.1).1 (vq_st st (by rw [List.length_append]; omega) ?_)
          rw [ofd_app, ho]
          exact ofd_none _
        | some o1 =>
          have hi3 := in_vq hq ho
          have k4' : rn g V m2 u [(5, p, v - (zt + 1))] s1 s2 L2 := by
            rw [show v - (zt + 1) = v - zt - 1 by omega]
            exact k4
          have := ih (zt + 1) h3 (q + B1.length) m2 s1 s2 L2 B2 o1 (by omega) (by omega) (by omega) hi3 (vpp_H_fr hH F2 g1 rfl rfl rfl) ((me_a (k := 96) F2 g1 rfl rfl).trans hv) k4' (hA2 h3 g1 F2 l2)
          refine this.imp (fun w h' hq' => ?_)
          rw [List.length_append, ← Nat.add_assoc]
          exact vq_step ho F2 l2 hq'
    · exfalso; omega
theorem me_wunit {h : sm_H} {s s' : gm_S} {u p zd po : Int} {q n : Nat} {o : ox} {L : List (Int × Int)} {A : List (Int × Int × Int)} (hWF : vpp_F f it g Y kw Lr V (d + 7) (zd + 1)) (hi : vpp_in h u q o) (hH : vpp_H f it g Y kw Lr h) (p0 : 0 ≤ p) (p1 : p < wk_u Y) (u0 : 1 ≤ u) (u1 : u ≤ 12) (z0 : 0 ≤ zd) (z1 : zd ≤ 5 * (u - 1) + wk_d Y (wk_c Y p)) (hr : rn g V n u [(0, p, po)] s s' L) (hA : vpp_A g h s s' q L A) : me_E (d + 10) 131 0 [some (.inr (.inr 108)), some (.inl p), some (.inl zd), none, none, none, none] [] h (vq Lr g h u (q + A.length) L (some o)) := by
  have hS := hi.1
  have hu60 := hH.1.1.1
  have n1 := hH.2.2
  obtain ⟨e68, -, -, e72, e122, -⟩ := hH.1.2.2.1 p p0 p1
  obtain ⟨⟨-, -, -, w1, w2⟩, -⟩ := hH.1.1.2.2.1 p p0 p1
  have wd := (hH.1.1.2.2.2 _ w1 w2).2.1
  have op : mi_in p := ⟨by omega, by omega⟩
  have od : mi_in zd := ⟨by omega, by omega⟩
  have o72 : mi_in (mi_a h 72 p.toNat) := mi_inT _
  have hs := in_run hi
  have hq31 := hi.2.2.2.2.1
  obtain ⟨x1, x2, x3, x4, x5, x6⟩ := id hA
  have oT : gm_T (gm_op po s) = gm_T s := gm_op_t
  have oD : gm_D (gm_op po s) = gm_D s := gm_op_e.1
  refine mt_kryA hS op od (by intros; exfalso; omega) (by intros; exfalso; omega) (by intros; exfalso; omega) (by intros; exfalso; omega) ?_ ?_ (by intros; exfalso; omega)
  · intro b c1 c2 c3 c4
    have n0 : ¬ g 122 p.toNat = 0 := fun q => by rw [e72, if_pos q] at c4; exact c4 rfl
    rw [if_neg n0] at e72
    refine ⟨⟨by omega, by omega⟩, fun h1 g1 g2 => ?_⟩
    have e := me_nil g2
    subst e
    refine ⟨fun w h' => w = some (.inl (q : Int)) ∧ ab_Sh sx_sk h' ∧ mi_f h' 13831 = ((q + 1 : Nat) : Int) ∧ ab_Fr [(13831, 13832)] h1 h', mt_koen (d := d + 7) g1 o72 ⟨by decide, by decide⟩ ?_, fun w h2 hw hq => ?_⟩
    · intro b1
      refine ⟨⟨⟨by omega, by omega⟩, by omega, by omega⟩, fun h2 s1 s2 s3 => ⟨congrArg (fun z : Int => some (Sum.inl z : mi_V)) (by omega), s1, by omega, s3⟩⟩
    obtain ⟨rfl, q1, q2, q3⟩ := hq
    obtain ⟨hi2, hl2⟩ := in_fr hi q3 q1 q2
    have F2 : ab_Fr wr_pw h1 h2 := q3.wide (fun c hc => ab_swr_ok (by decide) hc)
    have hH2 : vpp_H f it g Y kw Lr h2 := vpp_H_fr hH F2 g1 rfl rfl rfl
    have n2 : mi_f h2 12032 = mi_f h1 12032 := me_f (c := 12032) F2 g1 rfl rfl
    -- what is said of what is in it, is said of all
    have up : ∀ (h' : sm_H) (w : Option mi_V) (m : Nat), q + A.length = q + 1 + m → vq Lr g h2 u (q + 1 + m) L (some o) w h' → vq Lr g h1 u (q + A.length) L (some o) w h' := by
      intro h' w m em hv
      rw [em]
      exact vq_step (L0 := []) rfl F2 (by rw [hl2]; show _ ≤ _ + (0 : Int); omega) hv
    rw [e72]
    by_cases k1 : g 122 p.toNat = 1
    · -- a many
      have e5 : g 122 p.toNat + 4 = 5 := by omega
      rw [e5]
      obtain ⟨t, m, s2, a1, a2, a3, a4⟩ := rn_u1 k1 hr
      obtain ⟨j, b1, -, B, b3, b4, -⟩ := tpq_5 hH.1.1 (vpp_tF (V := V) hH m) p0 p1 (V (gm_len (gm_op po s))).toNat _ m _ _ _ (by omega) (by omega) a3
      obtain ⟨-, -, -, t4, -⟩ := gm_c_t a1
      obtain ⟨-, -, d3, -⟩ := gm_d_e (t := t)
      rw [d3, t4, oD] at b4
      subst a4
      have eA : A = (5 + 10 * ((gm_T s).length : Int), V (gm_len (gm_op po s)), gm_D s) :: B := app_cancel x1 (by rw [node_T a1 b3, oT, oD])
      subst eA
      obtain ⟨r1, -, r3⟩ := rh_cons b4 x2
      have v161 := x6 _ List.mem_cons_self (show (5 + 10 * ((gm_T s).length : Int)) % 10 = 5 by omega)
      dsimp only at v161
      rw [List.length_cons] at x3
      refine mt_kryD q1 op od ⟨by decide, by decide⟩ ⟨by omega, by omega⟩ (by intros; exfalso; omega) ?_
      intro c5 h5 s1 s2'
      have e := me_nil s2'
      subst e
      have a3' : rn g V m u [(5, p, V (gm_len (gm_op po s)) - 0)] (gm_d t) s2 L := by rw [Int.sub_zero]; exact a3
      have key := wy60 (d := d) (zo := q) hWF p0 p1 u0 u1 z0 z1 (by omega) v161 (by omega) (V (gm_len (gm_op po s))).toNat 0 h5 (q + 1) m (gm_d t) s2 L B o (by omega) (by decide) (by decide) hi2 hH2 ((me_a (k := 96) F2 g1 rfl rfl).trans r1) a3' ⟨b3, rh_fr r3 F2 g1 rfl, by omega, x4, by omega, fun x hx => x6 x (List.mem_cons_of_mem _ hx)⟩
      exact key.imp (fun w h' hv => up h' w B.length (by rw [List.length_cons]; omega) hv)
    · -- a maybe
      have k2 : g 122 p.toNat = 2 := by omega
      have e6 : g 122 p.toNat + 4 = 6 := by omega
      rw [e6]
      obtain ⟨t, a1, a2⟩ := rn_u2 k2 hr
      obtain ⟨-, -, -, t4, -⟩ := gm_c_t a1
      obtain ⟨-, -, d3, -⟩ := gm_d_e (t := t)
      refine mt_kryD q1 op od ⟨by decide, by decide⟩ ⟨by omega, by omega⟩ ?_ (by intros; exfalso; omega)
      intro c5 h5 s1 s2'
      have e := me_nil s2'
      subst e
      have hs5 := in_run hi2
      have et : Int.toNat (q : Int) = q := Int.toNat_natCast _
      rcases a2 with ⟨v0, m, s2, a3, a4, a5⟩ | ⟨v0, a4, a5⟩
      · obtain ⟨b1, -, B, b3, b4, -⟩ := tpq_sg hH.1.1 (vpp_tF (V := V) hH (m + 1)) (by omega) p0 p1 a4
        rw [d3, t4, oD] at b4
        subst a5
        have eA : A = (6 + 10 * ((gm_T s).length : Int), V (gm_len (gm_op po s)), gm_D s) :: B := app_cancel x1 (by rw [node_T a1 b3, oT, oD])
        subst eA
        obtain ⟨r1, -, r3⟩ := rh_cons b4 x2
        have r1' : mi_a h5 96 q = V (gm_len (gm_op po s)) := (me_a (k := 96) F2 g1 rfl rfl).trans r1
        rw [List.length_cons] at x3
        refine mt_kryE q1 op od ⟨by decide, by decide⟩ ⟨by omega, by omega⟩ ⟨by decide, by decide⟩ ⟨by decide, by decide⟩ (by intros; exfalso; omega) (by intros; exfalso; omega) (by intros; exfalso; omega) (by intros; exfalso; omega) (by intros; exfalso; omega) (by intros; exfalso; omega) ?_ ?_
        · intro b y1 y2 y3 y4 y5
          rw [et, r1'] at y5
          exfalso; omega
        · intro b y1 y2 y3 y4 y5
          refine ⟨⟨by omega, by omega⟩, fun h6 l1 l2 => ?_⟩
          have e := me_nil l2
          subst e
          refine ⟨_, me_wpart (d := d) hWF hi2 hH2 p0 p1 u0 u1 z0 z1 a4 ⟨b3, rh_fr r3 F2 g1 rfl, by omega, x4, by omega, fun x hx => x6 x (List.mem_cons_of_mem _ hx)⟩, fun w h7 hw hq => ?_⟩
          have e := hq.1
          subst e
          have s7 := hq.2.1
          have fin := up h7 none B.length (by rw [List.length_cons]; omega) hq
          refine mt_kryF s7 op od ⟨by decide, by decide⟩ ⟨by omega, by omega⟩ ⟨by decide, by decide⟩ ⟨by decide, by decide⟩ ?_
          refine ⟨⟨by decide, by decide⟩, fun h8 k1' k2' => ?_⟩
          have e := me_nil k2'
          subst e
          refine mt_kryE s7 op od ⟨by decide, by decide⟩ ⟨by omega, by omega⟩ ⟨by decide, by decide⟩ ⟨by decide, by decide⟩ ?_ ?_ (by intros; exfalso; omega) (by intros; exfalso; omega) (by intros; exfalso; omega) (by intros; exfalso; omega) (by intros; exfalso; omega) (by intros; exfalso; omega)
          · intro b c h9 n1 n2
            have e := me_nil n2
            subst e
            exact wy98 s7 op od ⟨by decide, by decide⟩ ⟨by omega, by omega⟩ ⟨by decide, by decide⟩ ⟨by decide, by decide⟩ fin
          · intro b c c' h9 n1 n2
            have e := me_nil n2
            subst e
            exact wy98 s7 op od ⟨by decide, by decide⟩ ⟨by omega, by omega⟩ ⟨by decide, by decide⟩ ⟨by decide, by decide⟩ fin
      · subst a4
        subst a5
        have eA : A = [(6 + 10 * ((gm_T s).length : Int), V (gm_len (gm_op po s)), gm_D s)] := app_cancel x1 (by rw [node_T (s2 := gm_d t) (A := []) a1 (List.append_nil _).symm, oT, oD])
        subst eA
        obtain ⟨r1, -, r3⟩ := rh_cons fo_nil x2
        have r1' : mi_a h5 96 q = V (gm_len (gm_op po s)) := (me_a (k := 96) F2 g1 rfl rfl).trans r1
        have x3 : (q : Int) + 1 ≤ mi_f h1 12032 := x3
        have fin := up h5 none 0 rfl (vq_refl hi2)
        refine mt_kryE q1 op od ⟨by decide, by decide⟩ ⟨by omega, by omega⟩ ⟨by decide, by decide⟩ ⟨by decide, by decide⟩ (by intros; exfalso; omega) (by intros; exfalso; omega) (by intros; exfalso; omega) (by intros; exfalso; omega) (by intros; exfalso; omega) (by intros; exfalso; omega) ?_ ?_
        · intro b y1 y2 y3 y4 y5
          refine ⟨⟨by omega, by omega⟩, fun h6 l1 l2 => ?_⟩
          have e := me_nil l2
          subst e
          exact wy98 q1 op od ⟨by decide, by decide⟩ ⟨by omega, by omega⟩ ⟨by decide, by decide⟩ ⟨by decide, by decide⟩ fin
        · intro b y1 y2 y3 y4 y5
          rw [et, r1'] at y5
          exfalso; omega
  · intro b c1 c2 c3 c4
    have n0 : g 122 p.toNat = 0 := by
      by_cases q : g 122 p.toNat = 0
      · exact q
      · rw [e72, if_neg q] at c4
        omega
    refine ⟨⟨by omega, by omega⟩, fun h1 g1 g2 => ?_⟩
    have e := me_nil g2
    subst e
    obtain ⟨m, m1, m2⟩ := rn_u0 (by omega) (by omega) hr
    refine ⟨_, me_wpart (d := d) (s := gm_op po s) hWF hi hH p0 p1 u0 u1 z0 z1 m2 ⟨by rw [oT]; exact x1, x2, x3, x4, x5, x6⟩, fun w h2 hw hq => ?_⟩
    have e := hq.1
    subst e
    refine mt_kryB hq.2.1 op od o72 ?_
    intro h3 r1 r2
    have e := me_nil r2
    subst e
    exact hq
end VW1
/-! the class's printing walk: a form, and so all of it -/
section VW2
variable {f : Int → Int} {it : Int → Prop} {g : wk_g} {Y : wk_Y} {kw : Int → Bool} {Lr : Nat → Int} {V : Int → Int} {d : Nat}
theorem ww226 {h : sm_H} {zf zd zi zw zo zp zn : Int} {q8 q9 qa : Option mi_V} {Q : Option mi_V → sm_H → Prop} (hS : ab_Sh sx_sk h) (of : mi_in zf) (od : mi_in zd) (oi : mi_in zi) (ow : mi_in zw) (oo : mi_in zo) (op : mi_in zp) (on : mi_in zn) (o8 : ∀ v, q8 = some v → mi_ok v) (o9 : ∀ v, q9 = some v → mi_ok v) (oa : ∀ v, qa = some v → mi_ok v) (hq : Q none h) : me_E (d + 11) 120 226 [some (.inr (.inr 108)), some (.inl zf), some (.inl zd), some (.inl zi), some (.inl zw), some (.inl zo), some (.inl zp), some (.inl zn), q8, q9, qa] [] h Q := by
  refine mt_krwL hS of od oi ow oo op on o8 o9 oa ?_ ?_
  · intro c h1 g1 g2
    have e := me_nil g2
    subst e
    exact hq
  · intro c h1 g1 g2
    have e := me_nil g2
    subst e
    exact hq
/-- once it has stopped -/
theorem ww104s {h : sm_H} {zf zd zi zw zo zp zn : Int} {q8 q9 qa : Option mi_V} {Q : Option mi_V → sm_H → Prop} (hS : ab_Sh sx_sk h) (of : mi_in zf) (od : mi_in zd) (oi : mi_in zi) (ow : mi_in zw) (oo : mi_in zo) (op : mi_in zp) (on : mi_in zn) (o8 : ∀ v, q8 = some v → mi_ok v) (o9 : ∀ v, q9 = some v → mi_ok v) (oa : ∀ v, qa = some v → mi_ok v) (h1 : mi_f h 13827 = 1) (hq : Q none h) : me_E (d + 11) 120 104 [some (.inr (.inr 108)), some (.inl zf), some (.inl zd), some (.inl zi), some (.inl zw), some (.inl zo), some (.inl zp), some (.inl zn), q8, q9, qa] [] h Q := by
  refine mt_krwG hS of od oi ow oo op on o8 o9 oa ?_ (by intros; exfalso; omega) (by intros; exfalso; omega) (by intros; exfalso; omega) (by intros; exfalso; omega) (by intros; exfalso; omega) (by intros; exfalso; omega)
  intro b c h2 g1 g2
  have e := me_nil g2
  subst e
  exact ww226 hS of od oi ow oo op on o8 o9 oa hq
theorem ww206s {h : sm_H} {zf zd zi zw zo zp zn zl : Int} {q9 qa : Option mi_V} {Q : Option mi_V → sm_H → Prop} (hS : ab_Sh sx_sk h) (of : mi_in zf) (od : mi_in zd) (oi : mi_in zi) (ow : mi_in zw) (oo : mi_in zo) (op : mi_in zp) (n0 : 0 ≤ zn) (n1 : zn ≤ 60) (ol : mi_in zl) (o9 : ∀ v, q9 = some v → mi_ok v) (oa : ∀ v, qa = some v → mi_ok v) (h1 : mi_f h 13827 = 1) (hq : Q none h) : me_E (d + 11) 120 206 [some (.inr (.inr 108)), some (.inl zf), some (.inl zd), some (.inl zi), some (.inl zw), some (.inl zo), some (.inl zp), some (.inl zn), some (.inl zl), q9, qa] [] h Q := by
  have on : mi_in zn := ⟨by omega, by omega⟩
  have on1 : mi_in (zn + 1) := ⟨by omega, by omega⟩
  have o8 : ∀ v, some (Sum.inl zl : mi_V) = some v → mi_ok v := fun v e => by cases e; exact ol
  refine mt_krwH hS of od oi ow oo op on ol o9 oa ?_ ?_ ?_
  · intro c
    refine ⟨⟨by omega, by omega⟩, fun h2 g1 g2 => ?_⟩
    have e := me_nil g2
    subst e
    exact ww104s hS of od oi ow oo ⟨by decide, by decide⟩ on1 o8 o9 oa h1 hq
  · intro c1 c2
    refine ⟨⟨by omega, by omega⟩, fun h2 g1 g2 => ?_⟩
    have e := me_nil g2
    subst e
    exact ww104s hS of od oi ow oo ⟨by decide, by decide⟩ on1 o8 o9 oa h1 hq
  · intro c1 c2
    refine ⟨⟨⟨by omega, by omega⟩, by omega, by omega⟩, fun h2 g1 g2 => ?_⟩
    have e := me_nil g2
    subst e
    exact ww104s hS of od oi ow oo (mi_inT _) on1 o8 o9 oa h1 hq
theorem op0 {s : gm_S} : gm_op 0 s = s := by unfold gm_op; rw [if_neg (by decide)]
theorem stv_1 {h0 h : sm_H} {u : Int} {n : Nat} (hs : vst h0 u n h) : mi_f h 13827 = 1 := (oC_no hs.2.2.2.1).1
theorem ww104 {u F zd zi zw zo : Int} (hWF : vpp_F f it g Y kw Lr V (d + 7) (zd + 1)) (F0 : 0 ≤ F) (F1 : F < wk_f Y) (u0 : 1 ≤ u) (u1 : u ≤ 12) (z0 : 0 ≤ zd) (z1 : zd ≤ 5 * (u - 1) + wk_d Y F) (oi : mi_in zi) (ow : mi_in zw) (oo : mi_in zo) : ∀ (N : Nat) (zn zp : Int) (q8 q9 qa : Option mi_V) (h : sm_H) (q n : Nat) (sj s2 : gm_S) (L : List (Int × Int)) (A : List (Int × Int × Int)) (o : ox), 60 - zn = N → 0 ≤ zn → (zp = -1 ∨ (zn ≤ zp ∧ zp < wk_u Y ∧ it zp ∧ wk_c Y zp = F)) → (∀ v, q8 = some v → mi_ok v) → (∀ v, q9 = some v → mi_ok v) → (∀ v, qa = some v → mi_ok v) → vpp_in h u q o → vpp_H f it g Y kw Lr h → rn g V n u (wk_it g (N + 1) zp) sj s2 L → vpp_A g h sj s2 q L A → me_E (d + 11) 120 104 [some (.inr (.inr 108)), some (.inl (f F)), some (.inl zd), some (.inl zi), some (.inl zw), some (.inl zo), some (.inl zp), some (.inl zn), q8, q9, qa] [] h (vq Lr g h u (q + A.length) L (some o)) := by
  -- nothing more comes
  have fin : ∀ (zn : Int) (q8 q9 qa : Option mi_V) (h : sm_H) (q n : Nat) (sj s2 : gm_S) (L : List (Int × Int)) (A : List (Int × Int × Int)) (o : ox) (K : Nat), mi_in zn → (∀ v, q8 = some v → mi_ok v) → (∀ v, q9 = some v → mi_ok v) → (∀ v, qa = some v → mi_ok v) → vpp_in h u q o → vpp_H f it g Y kw Lr h → rn g V n u (wk_it g (K + 1) (-1)) sj s2 L → vpp_A g h sj s2 q L A → me_E (d + 11) 120 104 [some (.inr (.inr 108)), some (.inl (f F)), some (.inl zd), some (.inl zi), some (.inl zw), some (.inl zo), some (.inl (-1 : Int)), some (.inl zn), q8, q9, qa] [] h (vq Lr g h u (q + A.length) L (some o)) := by
    intro zn q8 q9 qa h q n sj s2 L A o K on o8 o9 oa hi hH hr hA
    have of := cg_ok hH.1 F0 F1
    have wd := (hH.1.1.2.2.2 F F0 F1).2.1
    have od : mi_in zd := ⟨by omega, by omega⟩
    have hs := in_run hi
    have eit : wk_it g (K + 1) (-1) = [] := by rw [wk_it, if_pos (by decide)]
    rw [eit] at hr
    obtain ⟨k1, k2⟩ := rn_nil hr
    have hB : A = [] := app_cancel hA.1 (by rw [k1, List.append_nil])
    subst hB
    subst k2
    refine mt_krwG hi.1 of od oi ow oo ⟨by decide, by decide⟩ on o8 o9 oa (by intros; exfalso; omega) ?_ (by intros; exfalso; omega) (by intros; exfalso; omega) (by intros; exfalso; omega) (by intros; exfalso; omega) (by intros; exfalso; omega)
    intro b c1 c2 h1 g1 g2
    have e := me_nil g2
    subst e
    exact ww226 g1 of od oi ow oo ⟨by decide, by decide⟩ on o8 o9 oa (vq_refl hi)
  intro N
  induction N with
  | zero =>
    intro zn zp q8 q9 qa h q n sj s2 L A o hN n0 hp o8 o9 oa hi hH hr hA
    have hu60 := hH.1.1.1
    have e : zp = -1 := by
      rcases hp with e | ⟨e1, e2, -⟩
      · exact e
      · omega
    subst e
    exact fin zn q8 q9 qa h q n sj s2 L A o 0 ⟨by omega, by omega⟩ o8 o9 oa hi hH hr hA
  | succ N ih =>
    intro zn zp q8 q9 qa h q n sj s2 L A o hN n0 hp o8 o9 oa hi hH hr hA
    have on : mi_in zn := ⟨by omega, by omega⟩
    rcases hp with e | ⟨p2, p3, pit, pc⟩
    · subst e
      exact fin zn q8 q9 qa h q n sj s2 L A o (N + 1) on o8 o9 oa hi hH hr hA
    have hS := hi.1
    have hu60 := hH.1.1.1
    have n100 := hH.2.2
    have of := cg_ok hH.1 F0 F1
    have wd := (hH.1.1.2.2.2 F F0 F1).2.1
    have od : mi_in zd := ⟨by omega, by omega⟩
    have hs := in_run hi
    have p0 : 0 ≤ zp := by omega
    have op : mi_in zp := ⟨by omega, by omega⟩
    obtain ⟨-, -, -, -, -, hU⟩ := hH.1.2.2.1 zp p0 p3
    obtain ⟨e74, x125, it125, pairs, plain⟩ := hU pit
    obtain ⟨⟨l1, -⟩, lm, ln, -, -, -⟩ := hH.1.1.2.2.1 zp p0 p3
    have nxt : g 125 zp.toNat = -1 ∨ (zn + 1 ≤ g 125 zp.toNat ∧ g 125 zp.toNat < wk_u Y ∧ it (g 125 zp.toNat) ∧ wk_c Y (g 125 zp.toNat) = F) := by
      by_cases c : 0 ≤ g 125 zp.toNat
      · obtain ⟨a1, a2, a3, -⟩ := ln c
        exact Or.inr ⟨by omega, a1, it125 c, a2.trans pc⟩
      · exact Or.inl (by omega)
    have nx0 : g 125 zp.toNat < 0 ∨ g 125 zp.toNat < wk_u Y := by omega
    have tF : ∀ M, tpq_F g V Y (fun p => mi_a h 92 p.toNat) M := fun M => vpp_tF hH M
    refine mt_krwG hS of od oi ow oo op on o8 o9 oa (by intros; exfalso; omega) (by intros; exfalso; omega) (by intros; exfalso; omega) (by intros; exfalso; omega) (by intros; exfalso; omega) ?_ ?_
    · intro b c1 c2 c3 c4 c5 c6
      have nm : ¬ 0 ≤ g 124 zp.toNat := fun q => c6 (e74.mpr q)
      have eit : wk_it g (N + 1 + 1) zp = (0, zp, 0) :: wk_it g (N + 1) (g 125 zp.toNat) := by rw [wk_it, if_neg (by omega), if_neg nm]
      rw [eit] at hr
      obtain ⟨m1, m2, s1, L1, L2, k1, k2, k3, k4, k5⟩ := rn_i0 hr
      obtain ⟨a1, -, A1, a3, a4, -⟩ := tpq_u hH.1.1 hH.2.1.2 (vpp_rep hH) (tF m1) (Nat.le_refl _) p0 p3 k3
      obtain ⟨b1, -, A2, b3, b4, -⟩ := tpq_it hH.1.1 hH.2.1.2 (vpp_rep hH) (tF m2) (N + 1) _ m2 _ _ _ (Nat.le_refl _) nx0 k4
      rw [op0] at a1 a3 a4
      rw [a1] at b4
      have eA : A = A1 ++ A2 := app_cancel hA.1 (by rw [b3, a3, List.append_assoc])
      subst eA
      subst k5
      obtain ⟨hA1, hA2⟩ := vpp_A_split a4 b4 hA a3 b3
      refine ⟨⟨by omega, by omega⟩, fun h1 g1 g2 => ?_⟩
      have e := me_nil g2
      subst e
      refine ⟨_, me_wunit (d := d) hWF hi hH p0 p3 u0 u1 z0 (by rw [pc]; exact z1) k3 hA1, fun w h2 hw hq => ?_⟩
      have e := hq.1
      subst e
      have s2' := hq.2.1
      have F2 := hq.2.2.1
      have lv2 := hq.2.2.2.2.2.2.1.2
      cases ho : ofd Lr g L1 (some o) with
      | none =>
        have st := stv_vq hq ho
        exact ww206s s2' of od oi ow oo op n0 (by omega) op o9 oa (stv_1 st) (vq_st st (by rw [List.length_append]; omega) (by rw [ofd_app, ho]; exact ofd_none _))
      | some o1 =>
        have hi2 := in_vq hq ho
        have a71 : mi_a h2 71 (Int.toNat zp) = g 125 zp.toNat := (me_a (k := 71) F2 hS rfl rfl).trans (plain nm)
        refine mt_krwH s2' of od oi ow oo op on op o9 oa (by intros; exfalso; omega) (by intros; exfalso; omega) ?_
        intro y1 y2
        refine ⟨⟨⟨by omega, by omega⟩, by omega, by omega⟩, fun h3 r1 r2 => ?_⟩
        have e := me_nil r2
        subst e
        rw [a71]
        refine (ih (zn + 1) (g 125 zp.toNat) _ q9 qa h3 (q + A1.length) m2 s1 s2 L2 A2 o1 (by omega) (by omega) nxt (fun v e => by cases e; exact op) o9 oa hi2 (vpp_H_fr hH F2 hS rfl rfl rfl) k4 (hA2 h3 hS F2 lv2)).imp (fun w h' hq' => ?_)
        rw [List.length_append, ← Nat.add_assoc]
        exact vq_step ho F2 lv2 hq'
    · intro b c1 c2 c3 c4 c5 c6
      have hm := e74.mp c6
      obtain ⟨a71, b71⟩ := pairs hm
      obtain ⟨m1, m2, m3, m4⟩ := lm hm
      have om : mi_in (g 124 zp.toNat) := ⟨by omega, by omega⟩
      have eit : wk_it g (N + 1 + 1) zp = (0, zp, 1) :: (3, 0, 0) :: (0, g 124 zp.toNat, 0) :: (4, 0, 0) :: wk_it g (N + 1) (g 125 zp.toNat) := by rw [wk_it, if_neg (by omega), if_pos hm]
      rw [eit] at hr
      obtain ⟨j1, j2, j3, sa, sb, L1, L2, L3, -, -, -, k1, k2, k3, k4⟩ := rn_i1 hr
      obtain ⟨a1, aP, A1, a3, a4, -⟩ := tpq_u hH.1.1 hH.2.1.2 (vpp_rep hH) (tF j1) (Nat.le_refl _) p0 p3 k1
      obtain ⟨b1, bP, A2, b3, b4, bt⟩ := tpq_u hH.1.1 hH.2.1.2 (vpp_rep hH) (tF j2) (Nat.le_refl _) hm m1 k2
      rw [op0] at b1 bP b3 b4 bt
      obtain ⟨e1, -, A3, e3, e4, -⟩ := tpq_it hH.1.1 hH.2.1.2 (vpp_rep hH) (tF j3) (N + 1) _ j3 _ _ _ (Nat.le_refl _) nx0 k3
      obtain ⟨t1, t2, t3⟩ := pair_T aP a3 bP b3
      have oD : gm_D (gm_op 1 sj) = gm_D sj := gm_op_e.1
      have oT : gm_T (gm_op 1 sj) = gm_T sj := gm_op_t
      have mD : gm_D (gm_mid sa) = gm_D sa := by unfold gm_mid; rw [gm_D_mk]
      have mT : gm_T (gm_mid sa) = gm_T sa := gm_mid_T
      rw [oD] at a1 a4
      rw [mD, a1] at b1 b4 bt
      rw [t3, b1] at e4
      rw [oT] at a3
      have eA : A = (A2 ++ A1) ++ A3 := app_cancel hA.1 (by rw [e3, t1, List.append_assoc])
      subst eA
      subst k4
      -- all of the pair, the rest
      have hA' : vpp_A g h sj s2 q ((L1 ++ L2) ++ L3) ((A2 ++ A1) ++ A3) := by rw [List.append_assoc L1]; exact hA
      obtain ⟨hAp, hA3⟩ := vpp_A_split (fo_app b4 a4) e4 hA' t1 e3
      obtain ⟨-, x2, x3, x4, x5, x6⟩ := hAp
      obtain ⟨r2, r1⟩ := rh_app b4 a4 x2
      rw [List.length_append] at x3 x5
      have h31 := hi.2.2.2.2.1
      have o92 : mi_in (mi_a h 92 (Int.toNat (g 124 zp.toNat))) := mi_inT _
      have bt : tpc (gm_D sj) A2 = mi_a h 92 (Int.toNat (g 124 zp.toNat)) := bt
      refine ⟨⟨by omega, by omega⟩, fun h1 g1 g2 => ?_⟩
      have e := me_nil g2
      subst e
      rw [a71]
      have os : mi_in (q : Int) := ⟨by omega, by omega⟩
      -- the pair begins
      refine ⟨fun w h' => w = some (.inl (q : Int)) ∧ ab_Sh sx_sk h' ∧ mi_f h' 13831 = ((q + A2.length : Nat) : Int) ∧ ab_Fr [(13831, 13832)] h1 h', mt_kopb (d := d + 6) g1 om (by intros; exfalso; omega) (by intros; exfalso; omega) ?_, fun w h2 hw hq => ?_⟩
      · intro y1 y2
        refine ⟨⟨by omega, by omega⟩, fun h2 v1 v2 => ?_⟩
        have e := me_nil v2
        subst e
        rw [h31]
        refine ⟨_, me_behindc (d := d + 6) (D := gm_D sj) v1 r2 b4 bt n100 (by omega) o92, fun w h3 hw3 hq3 => ?_⟩
        obtain ⟨rfl, rfl⟩ := hq3
        refine mt_kopB (d := d + 6) v1 om os ⟨by omega, by omega⟩ ?_
        intro h4 w1 w2 w3
        exact ⟨rfl, w1, w2, w3⟩
      obtain ⟨rfl, q1, q2, q3⟩ := hq
      obtain ⟨hi2, hl2⟩ := in_fr hi q3 q1 q2
      have F2 : ab_Fr wr_pw h1 h2 := q3.wide (fun c hc => ab_swr_ok (by decide) hc)
      have n2 : mi_f h2 12032 = mi_f h1 12032 := me_f (c := 12032) F2 hS rfl rfl
      refine mt_krwN q1 of od oi ow oo op on om os o9 oa ?_
      intro h3 v1 v2
      have e := me_nil v2
      subst e
      refine ⟨_, me_wunit (d := d) hWF hi2 (vpp_H_fr hH F2 hS rfl rfl rfl) p0 p3 u0 u1 z0 (by rw [pc]; exact z1) k1 ⟨a3, rh_fr r1 F2 hS rfl, by omega, fun e he => x4 e (List.mem_append_left _ he), by omega, fun x hx => x6 x (List.mem_append_right _ hx)⟩, fun w h4 hw4 hq4 => ?_⟩
      have e := hq4.1
      subst e
      have s4 := hq4.2.1
      have F4 := hq4.2.2.1
      have lv4 := hq4.2.2.2.2.2.2.1
      have om4 : mi_in (mi_f h4 13831) := mi_inT _
      -- the rest of the way, once it has stopped
      have stp : ∀ (h5 : sm_H) (zm : Int), mi_in zm → vst h1 u (L1 ++ L2).length h5 → ofd Lr g (L1 ++ L2) (some o) = none → me_E (d + 11) 120 188 [some (.inr (.inr 108)), some (.inl (f F)), some (.inl zd), some (.inl zi), some (.inl zw), some (.inl zo), some (.inl zp), some (.inl zn), some (.inl (g 124 zp.toNat)), some (.inl (q : Int)), some (.inl zm)] [] h5 (vq Lr g h1 u (q + (A2 ++ A1 ++ A3).length) (L1 ++ (L2 ++ L3)) (some o)) := by
        intro h5 zm ozm st hn
        refine mt_krwJ st.1 of od oi ow oo op on om os ozm ?_
        intro h6 y1 y2 y3
        have st6 := stv_fr st y3 y1
        refine ww206s y1 of od oi ow oo op n0 (by omega) om (fun v e => by cases e; exact os) (fun v e => by cases e; exact ozm) (stv_1 st6) (vq_st st6 (by rw [List.length_append, List.length_append, List.length_append]; omega) ?_)
        rw [← List.append_assoc, ofd_app, hn]
        exact ofd_none _
      refine mt_krwI s4 of od oi ow oo op on om os oa ?_
      intro h5 y1 y2 y3
      have F5 : ab_Fr wr_pw h1 h5 := (F2.trans F4).trans (y3.wide (fun c hc => ab_swr_ok (by decide) hc))
      have l5 : mi_f h5 13832 = mi_f h4 13832 := me_f (c := 13832) y3 s4 rfl rfl
      have n5 : mi_f h5 12032 = mi_f h1 12032 := me_f (c := 12032) F5 hS rfl rfl
      cases ho : ofd Lr g L1 (some o) with
      | none =>
        have st4 := stv_vq hq4 ho
        obtain ⟨z1', z2', z3', z4', z5', z6'⟩ := stv_fr st4 y3 y1
        have st5 : vst h1 u (L1 ++ L2).length h5 := ⟨z1', F5, z3', z4', z5', by rw [List.length_append]; omega⟩
        refine ⟨_, me_wunit0 (d := d) y1 (stv_1 st5) om od, fun w h6 hw6 hq6 => ?_⟩
        obtain ⟨rfl, rfl⟩ := hq6
        exact stp h6 _ om4 st5 (by rw [ofd_app, ho]; exact ofd_none _)
      | some o1 =>
        have hi4 := in_vq hq4 ho
        have c4' := hi4.2.2.2.2.1
        obtain ⟨hi5, -⟩ := in_fr (q' := q) hi4 y3 y1 y2
        refine ⟨_, me_wunit (d := d) hWF hi5 (vpp_H_fr hH F5 hS rfl rfl rfl) hm m1 u0 u1 z0 (by rw [m2, pc]; exact z1) k2 ⟨b3, rh_fr r2 F5 hS rfl, by omega, fun e he => x4 e (List.mem_append_right _ he), by omega, fun x hx => x6 x (List.mem_append_left _ hx)⟩, fun w h6 hw6 hq6 => ?_⟩
        have e := hq6.1
        subst e
        have hq6' : vq Lr g h1 u (q + A2.length) (L1 ++ L2) (some o) none h6 := vq_step ho F5 (by omega) hq6
        have s6 := hq6'.2.1
        have F6 := hq6'.2.2.1
        have lv6 := hq6'.2.2.2.2.2.2.1.2
        cases ho2 : ofd Lr g (L1 ++ L2) (some o) with
        | none => exact stp h6 _ om4 (stv_vq hq6' ho2) ho2
        | some o2 =>
          have hi6 := in_vq hq6' ho2
          rw [c4'] at om4 ⊢
          refine mt_krwJ s6 of od oi ow oo op on om os om4 ?_
          intro h7 w1 w2 w3
          obtain ⟨hi7, hl7⟩ := in_fr (q' := q + A2.length + A1.length) hi6 w3 w1 w2
          have F7 : ab_Fr wr_pw h1 h7 := F6.trans (w3.wide (fun c hc => ab_swr_ok (by decide) hc))
          have c71 : mi_a h7 71 (Int.toNat (g 124 zp.toNat)) = g 125 zp.toNat := (me_a (k := 71) F7 hS rfl rfl).trans b71
          refine mt_krwH w1 of od oi ow oo op on om (fun v e => by cases e; exact os) (fun v e => by cases e; exact om4) (by intros; exfalso; omega) (by intros; exfalso; omega) ?_
          intro y4 y5
          refine ⟨⟨⟨by omega, by omega⟩, by omega, by omega⟩, fun h8 r3 r4 => ?_⟩
          have e := me_nil r4
          subst e
          rw [c71]
          have hA8 := hA3 h8 hS F7 (by omega)
          have eq8 : q + A2.length + A1.length = q + (A2 ++ A1).length := by rw [List.length_append, Nat.add_assoc]
          rw [eq8] at hi7 ⊢
          refine (ih (zn + 1) (g 125 zp.toNat) _ _ _ h8 (q + (A2 ++ A1).length) j3 (gm_tu sb) s2 L3 A3 o2 (by omega) (by omega) nxt (fun v e => by cases e; exact om) (fun v e => by cases e; exact os) (fun v e => by cases e; rw [← eq8]; exact om4) hi7 (vpp_H_fr hH F7 hS rfl rfl rfl) k3 hA8).imp (fun w h' hq' => ?_)
          rw [List.length_append (as := A2 ++ A1), ← Nat.add_assoc, ← List.append_assoc L1]
          exact vq_step ho2 F7 (by omega) hq'
theorem me_wform {zd : Int} (hWF : vpp_F f it g Y kw Lr V (d + 7) (zd + 1)) (z0 : 0 ≤ zd) : vpp_F f it g Y kw Lr V (d + 11) zd := by
  intro h s s' u F q n L A o hi hH F0 F1 u0 u1 hz hr hA
  have hS := hi.1
  have hs := in_run hi
  have of := cg_ok hH.1 F0 F1
  have hF := hH.1.2.1 F F0 F1
  have n100 := hH.2.2
  obtain ⟨⟨f0, f1⟩, f2, f3, f4, f5⟩ := id hF
  obtain ⟨d1, d2, d3, d4, dB, d5⟩ := hH.1.1.2.2.2 F F0 F1
  have od : mi_in zd := ⟨by omega, by omega⟩
  have h31 := hi.2.2.2.2.1
  obtain ⟨x1, x2, x3, x4, x5, x6⟩ := id hA
  -- from where the parts are gone through
  have go79 : ∀ (zi zw zo : Int) (h1 : sm_H) (q1 m : Nat) (sj s2 : gm_S) (A1 : List (Int × Int × Int)), mi_in zi → mi_in zo → 0 ≤ zw → zw < g 130 F.toNat → vpp_in h1 u q1 o → vpp_H f it g Y kw Lr h1 → rn g V m u (wk_it g 61 (g 126 (wk_alt g zw.toNat (g 129 F.toNat)).toNat)) sj s2 L → vpp_A g h1 sj s2 q1 L A1 → me_E (d + 11) 120 79 [some (.inr (.inr 108)), some (.inl (f F)), some (.inl zd), some (.inl zi), some (.inl zw), some (.inl zo), none, none, none, none, none] [] h1 (vq Lr g h1 u (q1 + A1.length) L (some o)) := by
    intro zi zw zo h1 q1 m sj s2 A1 oi oo w0 w1 hi1 hH1 hr1 hA1
    have hS1 := hi1.1
    have ow : mi_in zw := ⟨by omega, by omega⟩
    have hFF := hH1.1.2.1 F F0 F1
    refine mt_krwE hS1 of od oi ow oo ?_
    intro h2 g1 g2
    have e := me_nil g2
    subst e
    refine ⟨_, me_galt (d := d + 9) hS1 hFF w0 w1, fun w h3 hw hq => ?_⟩
    obtain ⟨rfl, rfl⟩ := hq
    obtain ⟨⟨p1, p2⟩, p3, -, -, -, p6, p7⟩ := hFF.2.2.2.2 zw.toNat (by omega)
    obtain ⟨-, -, p8⟩ := d5 zw.toNat (by omega)
    generalize wk_alt g zw.toNat (g 129 F.toNat) = a at hw p1 p2 p3 p6 p7 p8 hr1 ⊢
    refine mt_krwF hS1 of od oi ow oo (hw _ rfl) (by intros; exfalso; omega) (by intros; exfalso; omega) ?_
    intro c1 c2
    refine ⟨⟨by omega, by omega⟩, fun h4 r1 r2 => ?_⟩
    have e := me_nil r2
    subst e
    rw [p3]
    refine ww104 (d := d) hWF F0 F1 u0 u1 z0 hz oi ow oo 60 0 (g 126 a.toNat) none none none h4 q1 m sj s2 L A1 o (by decide) (by decide) ?_ (fun v e => by cases e) (fun v e => by cases e) (fun v e => by cases e) hi1 hH1 hr1 hA1
    by_cases c : 0 ≤ g 126 a.toNat
    · have := p8.resolve_left (by omega)
      exact Or.inr ⟨c, this.1, p7 c, this.2⟩
    · exact Or.inl (by omega)
  refine mt_krwA (d := d + 4) hS of od (by intros; exfalso; omega) (by intros; exfalso; omega) (by intros; exfalso; omega) ?_ ?_ (by intros; exfalso; omega)
  · intro b c1 c2 c3 c4 c5
    rw [f3] at c5
    obtain ⟨m, m1, m2⟩ := rn_f0 (by omega) hr
    refine ⟨⟨by omega, by omega⟩, fun h1 g1 g2 => ?_⟩
    have e := me_nil g2
    subst e
    refine mt_krwC hS of od ⟨by decide, by decide⟩ ⟨by decide, by decide⟩ ?_ (by intros; exfalso; omega) (by intros; exfalso; omega)
    intro c6 h2 r1 r2
    have e := me_nil r2
    subst e
    exact go79 0 0 (-1) h2 q m s s' A ⟨by decide, by decide⟩ ⟨by decide, by decide⟩ (by decide) (by omega) hi hH m2 hA
  · intro b c1 c2 c3 c4 c5
    rw [f3] at c5
    obtain ⟨cv, t, m, s2, k1, k2, k3, k4⟩ := rn_f1 c5 hr
    obtain ⟨-, -, p8⟩ := d5 (V (gm_len s)).toNat (by omega)
    obtain ⟨b1, -, B, b3, b4, -⟩ := tpq_it hH.1.1 hH.2.1.2 (vpp_rep hH) (vpp_tF (V := V) hH m) 61 _ m _ _ _ (Nat.le_refl _) (by omega) k3
    obtain ⟨-, -, -, t4, -⟩ := gm_c_t k1
    obtain ⟨-, -, e3, -⟩ := gm_d_e (t := t)
    rw [e3, t4] at b4
    subst k4
    have eA : A = (4 + 10 * ((gm_T s).length : Int), V (gm_len s), gm_D s) :: B := app_cancel x1 (node_T k1 b3)
    subst eA
    obtain ⟨r1, -, r3⟩ := rh_cons b4 x2
    rw [List.length_cons] at x3
    refine ⟨⟨by omega, by omega⟩, fun h1 g1 g2 => ?_⟩
    have e := me_nil g2
    subst e
    have ov : mi_in (V (gm_len s)) := ⟨by omega, by omega⟩
    refine ⟨fun w h' => w = some (.inl (V (gm_len s))) ∧ h' = h1, mt_koch (d := d + 8) hS of (by intros; exfalso; omega) (by intros; exfalso; omega) ?_, fun w h2 hw hq => ?_⟩
    · intro y1 y2 y3
      refine ⟨⟨by omega, by omega⟩, fun h2 v1 v2 => ?_⟩
      have e := me_nil v2
      subst e
      refine ⟨?_, rfl⟩
      rw [h31, Int.toNat_natCast, r1]
    obtain ⟨rfl, rfl⟩ := hq
    refine mt_krwB hS of od ⟨by decide, by decide⟩ ov ?_
    intro h3 v1 v2
    have e := me_nil v2
    subst e
    refine mt_krwC hS of od ⟨by decide, by decide⟩ ov (by intros; exfalso; omega) (by intros; exfalso; omega) ?_
    intro b2 c6 c7 h4 v3 v4
    have e := me_nil v4
    subst e
    refine ⟨fun w h' => w = some (.inl (q : Int)) ∧ ab_Sh sx_sk h' ∧ mi_f h' 13831 = ((q + 1 : Nat) : Int) ∧ ab_Fr [(13831, 13832)] h4 h', mt_koen (d := d + 8) hS ⟨by decide, by decide⟩ ov ?_, fun w h5 hw5 hq => ?_⟩
    · intro b1
      refine ⟨⟨⟨by omega, by omega⟩, by omega, by omega⟩, fun h2 s1 s2 s3 => ⟨congrArg (fun z : Int => some (Sum.inl z : mi_V)) (by omega), s1, by omega, s3⟩⟩
    obtain ⟨rfl, q1, q2, q3⟩ := hq
    obtain ⟨hi5, hl5⟩ := in_fr hi q3 q1 q2
    have F5 : ab_Fr wr_pw h4 h5 := q3.wide (fun c hc => ab_swr_ok (by decide) hc)
    have n5 : mi_f h5 12032 = mi_f h4 12032 := me_f (c := 12032) F5 hS rfl rfl
    have oo : mi_in (q : Int) := ⟨by omega, by omega⟩
    refine mt_krwD q1 of od ⟨by decide, by decide⟩ ov oo ?_
    intro h6 l1 l2
    have e := me_nil l2
    subst e
    refine (go79 1 (V (gm_len s)) _ h6 (q + 1) m (gm_d t) s2 B ⟨by decide, by decide⟩ oo cv.1 cv.2 hi5 (vpp_H_fr hH F5 hS rfl rfl rfl) k3 ⟨b3, rh_fr r3 F5 hS rfl, by omega, x4, by omega, fun x hx => x6 x (List.mem_cons_of_mem _ hx)⟩).imp (fun w h' hv => ?_)
    rw [List.length_cons, show q + (B.length + 1) = q + 1 + B.length from by omega]
    exact vq_step (L0 := []) rfl F5 (by rw [hl5]; show _ ≤ _ + (0 : Int); omega) hv
/-- all depths -/
theorem vpp_F_all : ∀ k : Nat, k ≤ 60 → vpp_F f it g Y kw Lr V (7 + 4 * k) (60 - (k : Int)) := by
  intro k
  induction k with
  | zero =>
    intro _ h s s' u F q n L A o hi hH F0 F1 u0 u1 hz
    have := (hH.1.1.2.2.2 F F0 F1).2.1
    exfalso; omega
  | succ k ih =>
    intro hk
    have e : (60 : Int) - ((k + 1 : Nat) : Int) + 1 = 60 - (k : Int) := by omega
    have := me_wform (d := 4 * k) (f := f) (it := it) (g := g) (Y := Y) (kw := kw) (Lr := Lr) (V := V) (zd := 60 - ((k + 1 : Nat) : Int)) (by
      rw [e, Nat.add_comm]
      exact ih (by omega)) (by omega)
    have e2 : 7 + 4 * (k + 1) = 4 * k + 11 := by omega
    rw [e2]
    exact this
end VW2
