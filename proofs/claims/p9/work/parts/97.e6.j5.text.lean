/-! the class's texts: a character more; what is printed: write, separate -/
def tx_alc (z : Int) : Prop := z = 10 ∨ (32 ≤ z ∧ z ≤ 126)
section TXD
variable {d : Nat} {h : sm_H}
theorem me_cast59 {m pc : Nat} {M : sm_M} {ls : mi_L} {v i : Int} {Q : Option mi_V → sm_H → Prop} (hM : sc_P m = some M) (hq : M.2.2[pc]? = some (some (.castore, 1, []))) (hS : ab_Sh sx_sk h) (v0 : 0 ≤ v) (v1 : v ≤ 65535) (i0 : 0 ≤ i) (i1 : i < 160) (K : ∀ h1, ab_Sh sx_sk h1 → (∀ j, mi_a h1 59 j = if j = i.toNat then v else mi_a h 59 j) → ab_Fr [(7552, 7552 + 1)] h h1 → me_E d m (pc + 1) ls [] h1 Q) : me_E d m pc ls [.inl v, .inl i, .inr (.inr 59)] h Q := by
  have ov : mi_in v := ⟨by omega, by omega⟩
  have oi : mi_in i := ⟨by omega, by omega⟩
  have tv := mi_ti ov
  have ti := mi_ti oi
  have ev : (sm_chr (Int32.ofInt v)).toInt = v := by
    rw [ab_chr_eq, tv]
    omega
  have en : (Int32.ofInt i).toNatClampNeg = i.toNat := by
    unfold Int32.toNatClampNeg
    rw [ti]
  have hs : mx_step sx_sk (.castore, 1, []) pc (mi_cl ls) [.int (Int32.ofInt v), .int (Int32.ofInt i), .ref 59] h 0 = some (pc + 1, mi_cl ls, [], mx_pa h 59 (Int32.ofInt i).toNatClampNeg (sm_chr (Int32.ofInt v)), [0 ≤ (Int32.ofInt i).toInt ∧ (Int32.ofInt i).toInt < ((160 : Nat) : Int), 0 ≤ (sm_chr (Int32.ofInt v)).toInt ∧ (sm_chr (Int32.ofInt v)).toInt ≤ 65535]) := rfl
  obtain ⟨e1, e2⟩ := mx_step_ok hs hS (fun p hp => by
    simp only [List.mem_cons, List.not_mem_nil, or_false] at hp
    rcases hp with rfl | rfl
    · rw [ti]; omega
    · rw [ev]; omega)
  obtain ⟨f, hf, -⟩ := mx_arr (a := 59) (t := 2) (n := 160) (lo := 0) (hi := 65535) (ex := []) hS rfl (by decide)
  have ep : mx_pa h 59 (Int32.ofInt i).toNatClampNeg (sm_chr (Int32.ofInt v)) = h.set 59 (.inl (2, 160, .inl (upd f (Int32.ofInt i).toNatClampNeg (sm_chr (Int32.ofInt v))))) := by
    unfold mx_pa
    rw [hf]
  refine ab_Ends.step hM hq e1 (K _ e2 (fun j => ?_) ?_)
  · unfold mi_a
    rw [mx_a_pa (mx_Sh_Sp hS) rfl, en]
    by_cases c : j = i.toNat
    · rw [if_pos c, if_pos ⟨rfl, c⟩, ev]
    · rw [if_neg c, if_neg (fun q => c q.2)]
  · show ab_Fr _ h (mx_pa h 59 (Int32.ofInt i).toNatClampNeg (sm_chr (Int32.ofInt v)))
    rw [ep]
    exact ab_Fr_arr hf rfl (by decide)
/-- a character is put at the end -/
theorem me_app58 {zc : Int} (hS : ab_Sh sx_sk h) (hz : tx_alc zc) : me_E d 91 0 [some (.inr (.inr 58)), some (.inl zc), none] [] h (fun w h' => ab_Sh sx_sk h' ∧ ((w = some (.inl 1) ∧ mi_f h 7425 < 160 ∧ mi_f h' 7425 = mi_f h 7425 + 1 ∧ (∀ j, mi_a h' 59 j = if j = (mi_f h 7425).toNat then zc else mi_a h 59 j) ∧ ab_Fr [(7425, 7425 + 1), (7552, 7552 + 1)] h h') ∨ (w = some (.inl 0) ∧ 160 ≤ mi_f h 7425 ∧ h' = h))) := by
  unfold tx_alc at hz
  have oc : mi_in zc := ⟨by omega, by omega⟩
  have t24 : me_E d 91 24 [some (.inr (.inr 58)), some (.inl zc), some (.inl 1)] [] h (fun w h' => ab_Sh sx_sk h' ∧ ((w = some (.inl 1) ∧ mi_f h 7425 < 160 ∧ mi_f h' 7425 = mi_f h 7425 + 1 ∧ (∀ j, mi_a h' 59 j = if j = (mi_f h 7425).toNat then zc else mi_a h 59 j) ∧ ab_Fr [(7425, 7425 + 1), (7552, 7552 + 1)] h h') ∨ (w = some (.inl 0) ∧ 160 ≤ mi_f h 7425 ∧ h' = h))) := by
    refine mt_a58B hS oc ⟨by decide, by decide⟩ (fun q => absurd q (by decide)) (by intros; exfalso; omega) ?_ ?_
    · intro b c1 c2 c3 h1 g1 g2
      have e0 := me_nil g2
      subst e0
      refine me_cast59 (m := 91) (M := (3, 4, sb_91)) rfl rfl g1 (by omega) (by omega) c2 c3 (fun h2 s1 s2 s3 => ?_)
      have e57 : mi_f h2 7425 = mi_f h1 7425 := me_f (c := 7425) s3 g1 rfl rfl
      refine mt_a58C s1 oc ⟨by decide, by decide⟩ (fun b => ⟨by omega, fun h3 t1 t2 t3 => ⟨t1, Or.inl ⟨rfl, c3, by rw [t2, e57], fun j => ?_, (s3.wide (fun c hc => ab_swr_ok (by decide) hc)).trans (t3.wide (fun c hc => ab_swr_ok (by decide) hc))⟩⟩⟩)
      rw [me_a (k := 59) t3 s1 rfl rfl]
      exact s2 j
    · intro b c1 c2 c3 h1 g1 g2
      have e0 := me_nil g2
      subst e0
      exact ⟨g1, Or.inr ⟨rfl, c3, rfl⟩⟩
  refine mt_a58A hS oc ?_ ?_ ?_ ?_ ?_
  · intro c1 c2; exfalso; omega
  · intro c1 c2 h1 g1 g2
    have e0 := me_nil g2
    subst e0
    exact t24
  · intro c1 c2 h1 g1 g2
    have e0 := me_nil g2
    subst e0
    exact t24
  · intro c1 c2 c3; exfalso; omega
  · intro c1 c2 c3; exfalso; omega
theorem me_cast57 {m pc : Nat} {M : sm_M} {ls : mi_L} {v i : Int} {Q : Option mi_V → sm_H → Prop} (hM : sc_P m = some M) (hq : M.2.2[pc]? = some (some (.castore, 1, []))) (hS : ab_Sh sx_sk h) (v0 : 0 ≤ v) (v1 : v ≤ 65535) (i0 : 0 ≤ i) (i1 : i < 160) (K : ∀ h1, ab_Sh sx_sk h1 → (∀ j, mi_a h1 57 j = if j = i.toNat then v else mi_a h 57 j) → ab_Fr [(7296, 7296 + 1)] h h1 → me_E d m (pc + 1) ls [] h1 Q) : me_E d m pc ls [.inl v, .inl i, .inr (.inr 57)] h Q := by
  have ov : mi_in v := ⟨by omega, by omega⟩
  have oi : mi_in i := ⟨by omega, by omega⟩
  have tv := mi_ti ov
  have ti := mi_ti oi
  have ev : (sm_chr (Int32.ofInt v)).toInt = v := by
    rw [ab_chr_eq, tv]
    omega
  have en : (Int32.ofInt i).toNatClampNeg = i.toNat := by
    unfold Int32.toNatClampNeg
    rw [ti]
  have hs : mx_step sx_sk (.castore, 1, []) pc (mi_cl ls) [.int (Int32.ofInt v), .int (Int32.ofInt i), .ref 57] h 0 = some (pc + 1, mi_cl ls, [], mx_pa h 57 (Int32.ofInt i).toNatClampNeg (sm_chr (Int32.ofInt v)), [0 ≤ (Int32.ofInt i).toInt ∧ (Int32.ofInt i).toInt < ((160 : Nat) : Int), 0 ≤ (sm_chr (Int32.ofInt v)).toInt ∧ (sm_chr (Int32.ofInt v)).toInt ≤ 65535]) := rfl
  obtain ⟨e1, e2⟩ := mx_step_ok hs hS (fun p hp => by
    simp only [List.mem_cons, List.not_mem_nil, or_false] at hp
    rcases hp with rfl | rfl
    · rw [ti]; omega
    · rw [ev]; omega)
  obtain ⟨f, hf, -⟩ := mx_arr (a := 57) (t := 2) (n := 160) (lo := 0) (hi := 65535) (ex := []) hS rfl (by decide)
  have ep : mx_pa h 57 (Int32.ofInt i).toNatClampNeg (sm_chr (Int32.ofInt v)) = h.set 57 (.inl (2, 160, .inl (upd f (Int32.ofInt i).toNatClampNeg (sm_chr (Int32.ofInt v))))) := by
    unfold mx_pa
    rw [hf]
  refine ab_Ends.step hM hq e1 (K _ e2 (fun j => ?_) ?_)
  · unfold mi_a
    rw [mx_a_pa (mx_Sh_Sp hS) rfl, en]
    by_cases c : j = i.toNat
    · rw [if_pos c, if_pos ⟨rfl, c⟩, ev]
    · rw [if_neg c, if_neg (fun q => c q.2)]
  · show ab_Fr _ h (mx_pa h 57 (Int32.ofInt i).toNatClampNeg (sm_chr (Int32.ofInt v)))
    rw [ep]
    exact ab_Fr_arr hf rfl (by decide)
/-- a character is put at the end -/
theorem me_app56 {zc : Int} (hS : ab_Sh sx_sk h) (hz : tx_alc zc) : me_E d 91 0 [some (.inr (.inr 56)), some (.inl zc), none] [] h (fun w h' => ab_Sh sx_sk h' ∧ ((w = some (.inl 1) ∧ mi_f h 7169 < 160 ∧ mi_f h' 7169 = mi_f h 7169 + 1 ∧ (∀ j, mi_a h' 57 j = if j = (mi_f h 7169).toNat then zc else mi_a h 57 j) ∧ ab_Fr [(7169, 7169 + 1), (7296, 7296 + 1)] h h') ∨ (w = some (.inl 0) ∧ 160 ≤ mi_f h 7169 ∧ h' = h))) := by
  unfold tx_alc at hz
  have oc : mi_in zc := ⟨by omega, by omega⟩
  have t24 : me_E d 91 24 [some (.inr (.inr 56)), some (.inl zc), some (.inl 1)] [] h (fun w h' => ab_Sh sx_sk h' ∧ ((w = some (.inl 1) ∧ mi_f h 7169 < 160 ∧ mi_f h' 7169 = mi_f h 7169 + 1 ∧ (∀ j, mi_a h' 57 j = if j = (mi_f h 7169).toNat then zc else mi_a h 57 j) ∧ ab_Fr [(7169, 7169 + 1), (7296, 7296 + 1)] h h') ∨ (w = some (.inl 0) ∧ 160 ≤ mi_f h 7169 ∧ h' = h))) := by
    refine mt_a56B hS oc ⟨by decide, by decide⟩ (fun q => absurd q (by decide)) (by intros; exfalso; omega) ?_ ?_
    · intro b c1 c2 c3 h1 g1 g2
      have e0 := me_nil g2
      subst e0
      refine me_cast57 (m := 91) (M := (3, 4, sb_91)) rfl rfl g1 (by omega) (by omega) c2 c3 (fun h2 s1 s2 s3 => ?_)
      have e57 : mi_f h2 7169 = mi_f h1 7169 := me_f (c := 7169) s3 g1 rfl rfl
      refine mt_a56C s1 oc ⟨by decide, by decide⟩ (fun b => ⟨by omega, fun h3 t1 t2 t3 => ⟨t1, Or.inl ⟨rfl, c3, by rw [t2, e57], fun j => ?_, (s3.wide (fun c hc => ab_swr_ok (by decide) hc)).trans (t3.wide (fun c hc => ab_swr_ok (by decide) hc))⟩⟩⟩)
      rw [me_a (k := 57) t3 s1 rfl rfl]
      exact s2 j
    · intro b c1 c2 c3 h1 g1 g2
      have e0 := me_nil g2
      subst e0
      exact ⟨g1, Or.inr ⟨rfl, c3, rfl⟩⟩
  refine mt_a56A hS oc ?_ ?_ ?_ ?_ ?_
  · intro c1 c2; exfalso; omega
  · intro c1 c2 h1 g1 g2
    have e0 := me_nil g2
    subst e0
    exact t24
  · intro c1 c2 h1 g1 g2
    have e0 := me_nil g2
    subst e0
    exact t24
  · intro c1 c2 c3; exfalso; omega
  · intro c1 c2 c3; exfalso; omega
theorem me_cast55 {m pc : Nat} {M : sm_M} {ls : mi_L} {v i : Int} {Q : Option mi_V → sm_H → Prop} (hM : sc_P m = some M) (hq : M.2.2[pc]? = some (some (.castore, 1, []))) (hS : ab_Sh sx_sk h) (v0 : 0 ≤ v) (v1 : v ≤ 65535) (i0 : 0 ≤ i) (i1 : i < 160) (K : ∀ h1, ab_Sh sx_sk h1 → (∀ j, mi_a h1 55 j = if j = i.toNat then v else mi_a h 55 j) → ab_Fr [(7040, 7040 + 1)] h h1 → me_E d m (pc + 1) ls [] h1 Q) : me_E d m pc ls [.inl v, .inl i, .inr (.inr 55)] h Q := by
  have ov : mi_in v := ⟨by omega, by omega⟩
  have oi : mi_in i := ⟨by omega, by omega⟩
  have tv := mi_ti ov
  have ti := mi_ti oi
  have ev : (sm_chr (Int32.ofInt v)).toInt = v := by
    rw [ab_chr_eq, tv]
    omega
  have en : (Int32.ofInt i).toNatClampNeg = i.toNat := by
    unfold Int32.toNatClampNeg
    rw [ti]
  have hs : mx_step sx_sk (.castore, 1, []) pc (mi_cl ls) [.int (Int32.ofInt v), .int (Int32.ofInt i), .ref 55] h 0 = some (pc + 1, mi_cl ls, [], mx_pa h 55 (Int32.ofInt i).toNatClampNeg (sm_chr (Int32.ofInt v)), [0 ≤ (Int32.ofInt i).toInt ∧ (Int32.ofInt i).toInt < ((160 : Nat) : Int), 0 ≤ (sm_chr (Int32.ofInt v)).toInt ∧ (sm_chr (Int32.ofInt v)).toInt ≤ 65535]) := rfl
  obtain ⟨e1, e2⟩ := mx_step_ok hs hS (fun p hp => by
    simp only [List.mem_cons, List.not_mem_nil, or_false] at hp
    rcases hp with rfl | rfl
    · rw [ti]; omega
    · rw [ev]; omega)
  obtain ⟨f, hf, -⟩ := mx_arr (a := 55) (t := 2) (n := 160) (lo := 0) (hi := 65535) (ex := []) hS rfl (by decide)
  have ep : mx_pa h 55 (Int32.ofInt i).toNatClampNeg (sm_chr (Int32.ofInt v)) = h.set 55 (.inl (2, 160, .inl (upd f (Int32.ofInt i).toNatClampNeg (sm_chr (Int32.ofInt v))))) := by
    unfold mx_pa
    rw [hf]
  refine ab_Ends.step hM hq e1 (K _ e2 (fun j => ?_) ?_)
  · unfold mi_a
    rw [mx_a_pa (mx_Sh_Sp hS) rfl, en]
    by_cases c : j = i.toNat
    · rw [if_pos c, if_pos ⟨rfl, c⟩, ev]
    · rw [if_neg c, if_neg (fun q => c q.2)]
  · show ab_Fr _ h (mx_pa h 55 (Int32.ofInt i).toNatClampNeg (sm_chr (Int32.ofInt v)))
    rw [ep]
    exact ab_Fr_arr hf rfl (by decide)
/-- a character is put at the end -/
theorem me_app54 {zc : Int} (hS : ab_Sh sx_sk h) (hz : tx_alc zc) : me_E d 91 0 [some (.inr (.inr 54)), some (.inl zc), none] [] h (fun w h' => ab_Sh sx_sk h' ∧ ((w = some (.inl 1) ∧ mi_f h 6913 < 160 ∧ mi_f h' 6913 = mi_f h 6913 + 1 ∧ (∀ j, mi_a h' 55 j = if j = (mi_f h 6913).toNat then zc else mi_a h 55 j) ∧ ab_Fr [(6913, 6913 + 1), (7040, 7040 + 1)] h h') ∨ (w = some (.inl 0) ∧ 160 ≤ mi_f h 6913 ∧ h' = h))) := by
  unfold tx_alc at hz
  have oc : mi_in zc := ⟨by omega, by omega⟩
  have t24 : me_E d 91 24 [some (.inr (.inr 54)), some (.inl zc), some (.inl 1)] [] h (fun w h' => ab_Sh sx_sk h' ∧ ((w = some (.inl 1) ∧ mi_f h 6913 < 160 ∧ mi_f h' 6913 = mi_f h 6913 + 1 ∧ (∀ j, mi_a h' 55 j = if j = (mi_f h 6913).toNat then zc else mi_a h 55 j) ∧ ab_Fr [(6913, 6913 + 1), (7040, 7040 + 1)] h h') ∨ (w = some (.inl 0) ∧ 160 ≤ mi_f h 6913 ∧ h' = h))) := by
    refine mt_a54B hS oc ⟨by decide, by decide⟩ (fun q => absurd q (by decide)) (by intros; exfalso; omega) ?_ ?_
    · intro b c1 c2 c3 h1 g1 g2
      have e0 := me_nil g2
      subst e0
      refine me_cast55 (m := 91) (M := (3, 4, sb_91)) rfl rfl g1 (by omega) (by omega) c2 c3 (fun h2 s1 s2 s3 => ?_)
      have e57 : mi_f h2 6913 = mi_f h1 6913 := me_f (c := 6913) s3 g1 rfl rfl
      refine mt_a54C s1 oc ⟨by decide, by decide⟩ (fun b => ⟨by omega, fun h3 t1 t2 t3 => ⟨t1, Or.inl ⟨rfl, c3, by rw [t2, e57], fun j => ?_, (s3.wide (fun c hc => ab_swr_ok (by decide) hc)).trans (t3.wide (fun c hc => ab_swr_ok (by decide) hc))⟩⟩⟩)
      rw [me_a (k := 55) t3 s1 rfl rfl]
      exact s2 j
    · intro b c1 c2 c3 h1 g1 g2
      have e0 := me_nil g2
      subst e0
      exact ⟨g1, Or.inr ⟨rfl, c3, rfl⟩⟩
  refine mt_a54A hS oc ?_ ?_ ?_ ?_ ?_
  · intro c1 c2; exfalso; omega
  · intro c1 c2 h1 g1 g2
    have e0 := me_nil g2
    subst e0
    exact t24
  · intro c1 c2 h1 g1 g2
    have e0 := me_nil g2
    subst e0
    exact t24
  · intro c1 c2 c3; exfalso; omega
  · intro c1 c2 c3; exfalso; omega
theorem me_i2c {m pc : Nat} {M : sm_M} {ls : mi_L} {v : Int} {r : List mi_V} {Q : Option mi_V → sm_H → Prop} (hM : sc_P m = some M) (hq : M.2.2[pc]? = some (some (.i2c, 1, []))) (v0 : 0 ≤ v) (v1 : v ≤ 65535) (K : me_E d m (pc + 1) ls (.inl v :: r) h Q) : me_E d m pc ls (.inl v :: r) h Q := by
  have ov : mi_in v := ⟨by omega, by omega⟩
  have ev : sm_chr (Int32.ofInt v) = Int32.ofInt v := Int32.toInt_inj.mp (by rw [ab_chr_eq, mi_ti ov]; omega)
  have hs : sm_step (.i2c, 1, []) pc (mi_cl ls) (.int (Int32.ofInt v) :: r.map mi_c) h = some (.inl (pc + 1, mi_cl ls, .int (sm_chr (Int32.ofInt v)) :: r.map mi_c, h)) := rfl
  rw [ev] at hs
  exact ab_Ends.step hM hq hs K
theorem i32_ush {z : Int} (h0 : 0 ≤ z) (h1 : z ≤ 1073741823) : ((Int32.ofInt z).toUInt32 >>> ((Int32.ofInt 5).toUInt32 &&& Int32.toUInt32 31)).toInt32.toInt = z / 32 := by
  have oz : mi_in z := ⟨by omega, by omega⟩
  have e5 : ((Int32.ofInt 5).toUInt32 &&& Int32.toUInt32 31).toNat = 5 := by decide
  have ez : (Int32.ofInt z).toUInt32.toNat = z.toNat := by
    have e1 : (Int32.ofInt z).toBitVec.toInt = z := mi_ti oz
    have e3 := BitVec.toInt_eq_toNat_cond (Int32.ofInt z).toBitVec
    have e4 := (Int32.ofInt z).toBitVec.isLt
    show (Int32.ofInt z).toBitVec.toNat = z.toNat
    split at e3 <;> omega
  have em : ((Int32.ofInt z).toUInt32 >>> ((Int32.ofInt 5).toUInt32 &&& Int32.toUInt32 31)).toNat = z.toNat / 32 := by
    rw [UInt32.toNat_shiftRight, ez, e5, Nat.shiftRight_eq_div_pow]
  show ((Int32.ofInt z).toUInt32 >>> ((Int32.ofInt 5).toUInt32 &&& Int32.toUInt32 31)).toBitVec.toInt = _
  have e6 : ((Int32.ofInt z).toUInt32 >>> ((Int32.ofInt 5).toUInt32 &&& Int32.toUInt32 31)).toBitVec.toNat = z.toNat / 32 := em
  rw [BitVec.toInt_eq_toNat_of_lt (by omega), e6]
  omega
theorem me_ush5 {m pc : Nat} {M : sm_M} {ls : mi_L} {v : Int} {Q : Option mi_V → sm_H → Prop} (hM : sc_P m = some M) (hq : M.2.2[pc]? = some (some (.iushr, 1, []))) (v0 : 0 ≤ v) (v1 : v ≤ 1073741823) (K : me_E d m (pc + 1) ls [.inl (v / 32)] h Q) : me_E d m pc ls [.inl 5, .inl v] h Q := by
  have ev : ((Int32.ofInt v).toUInt32 >>> ((Int32.ofInt 5).toUInt32 &&& Int32.toUInt32 31)).toInt32 = Int32.ofInt (v / 32) := Int32.toInt_inj.mp (by rw [i32_ush v0 v1, mi_ti ⟨by omega, by omega⟩])
  have hs : sm_step (.iushr, 1, []) pc (mi_cl ls) [.int (Int32.ofInt 5), .int (Int32.ofInt v)] h = some (.inl (pc + 1, mi_cl ls, [.int ((Int32.ofInt v).toUInt32 >>> ((Int32.ofInt 5).toUInt32 &&& Int32.toUInt32 31)).toInt32], h)) := rfl
  rw [ev] at hs
  exact ab_Ends.step hM hq hs K
end TXD
/-! what the class has printed -/
def oCo (h : sm_H) (o : ox) : Prop := mi_f h 7425 = (o.1.length : Int) ∧ (∀ k : Nat, k < o.1.length → o.1[k]? = some (mi_a h 59 k)) ∧ mi_f h 13834 = o.2.1 ∧ mi_f h 13833 = o.2.2.1 ∧ mi_f h 13832 = o.2.2.2
def oC (h : sm_H) (x : Option ox) : Prop := (x = none ∧ mi_f h 13827 = 1 ∧ mi_f h 13836 = 1 ∧ 160 ≤ mi_f h 7425) ∨ ∃ o, x = some o ∧ mi_f h 13827 = 0 ∧ mi_f h 13836 = 0 ∧ oCo h o
/-- whether a word was before -/
def oCw (h : sm_H) (x : Option ox) : Prop := ∀ o, x = some o → o.1 ≠ [] → (mi_f h 13835 ≠ 0 ↔ wy (olc o.1) = true)
def wr_c3 : List (Nat × Nat) := [(7425, 7426), (7552, 7553), (13827, 13828), (13836, 13837)]
def wr_cs : List (Nat × Nat) := [(7425, 7426), (7552, 7553), (13827, 13828), (13833, 13837)]
section CPR
variable {d : Nat} {h : sm_H} {x : Option ox}
theorem oC_len {o : ox} (hR : oC h (some o)) : mi_f h 13827 = 0 ∧ mi_f h 13836 = 0 ∧ oCo h o := by
  rcases hR with ⟨a, -⟩ | ⟨o', a, b, c⟩
  · cases a
  · injection a with a
    subst a
    exact ⟨b, c⟩
theorem oC_no (hR : oC h none) : mi_f h 13827 = 1 ∧ mi_f h 13836 = 1 ∧ 160 ≤ mi_f h 7425 := by
  rcases hR with ⟨-, a⟩ | ⟨o', a, -⟩
  · exact a
  · cases a
theorem oC_fr {h' : sm_H} {wr : List (Nat × Nat)} (hR : oC h x) (hF : ab_Fr wr h h') (hS : ab_Sh sx_sk h) (hw : (ab_in wr 7425 || ab_in wr 7552 || ab_in wr 13827 || ab_in wr 13832 || ab_in wr 13833 || ab_in wr 13834 || ab_in wr 13836) = false) : oC h' x := by
  simp only [Bool.or_eq_false_iff] at hw
  obtain ⟨⟨⟨⟨⟨⟨w1, w2⟩, w3⟩, w4⟩, w5⟩, w6⟩, w7⟩ := hw
  rcases hR with ⟨a, b, c, c'⟩ | ⟨o, a, b, c, c1, c2, c3, c4, c5⟩
  · exact Or.inl ⟨a, (me_f (c := 13827) hF hS rfl w3).trans b, (me_f (c := 13836) hF hS rfl w7).trans c, by rw [me_f (c := 7425) hF hS rfl w1]; exact c'⟩
  · exact Or.inr ⟨o, a, (me_f (c := 13827) hF hS rfl w3).trans b, (me_f (c := 13836) hF hS rfl w7).trans c, (me_f (c := 7425) hF hS rfl w1).trans c1, fun k hk => by rw [me_a (k := 59) hF hS rfl w2]; exact c2 k hk, (me_f (c := 13834) hF hS rfl w6).trans c3, (me_f (c := 13833) hF hS rfl w5).trans c4, (me_f (c := 13832) hF hS rfl w4).trans c5⟩
/-- what was full stays full -/
theorem ow_full {c : Int} {o : ox} (h : 160 ≤ o.1.length) : owx c o = none := by
  unfold owx ow
  rw [if_pos h]
  rfl
theorem me_wrc {zc : Int} (hS : ab_Sh sx_sk h) (hz : tx_alc zc) (hR : oC h x) : me_E (d + 1) 140 0 [some (.inr (.inr 108)), some (.inl zc)] [] h (fun w h' => w = none ∧ ab_Sh sx_sk h' ∧ ab_Fr wr_c3 h h' ∧ oC h' (x.bind (owx zc))) := by
  have oc : mi_in zc := ⟨by unfold tx_alc at hz; omega, by unfold tx_alc at hz; omega⟩
  refine mt_kowA (d := d) hS oc ?_
  intro h1 g1 g2
  have e := me_nil g2
  subst e
  refine ⟨_, me_app58 g1 hz, fun w h2 hw hq => ?_⟩
  obtain ⟨q1, ⟨rfl, q2, q3, q4, q5⟩ | ⟨rfl, q2, rfl⟩⟩ := hq
  · refine mt_kowB q1 oc ⟨by decide, by decide⟩ ?_ (fun q => absurd q (by decide))
    intro c h3 r1 r2
    have e := me_nil r2
    subst e
    rcases hR with ⟨a, b, c, c'⟩ | ⟨o, a, b, c, c1, c2, c3, c4, c5⟩
    · omega
    · subst a
      have eo : (some o).bind (owx zc) = some (o.1 ++ [zc], o.2) := by
        show owx zc o = _
        unfold owx ow
        rw [if_neg (by omega)]
        rfl
      rw [eo]
      refine ⟨rfl, r1, q5.wide (fun c hc => ab_swr_ok (by decide) hc), Or.inr ⟨_, rfl, (me_f (c := 13827) q5 g1 rfl rfl).trans b, (me_f (c := 13836) q5 g1 rfl rfl).trans c, ?_, fun k hk => ?_, (me_f (c := 13834) q5 g1 rfl rfl).trans c3, (me_f (c := 13833) q5 g1 rfl rfl).trans c4, (me_f (c := 13832) q5 g1 rfl rfl).trans c5⟩⟩
      · rw [q3, c1, List.length_append]
        rfl
      · dsimp only at hk ⊢
        rw [List.length_append] at hk
        have hk : k < o.1.length + 1 := hk
        rw [q4]
        by_cases e : k = o.1.length
        · rw [if_pos (by omega), e, List.getElem?_append_right (Nat.le_refl _), Nat.sub_self]
          rfl
        · rw [if_neg (by omega), List.getElem?_append_left (by omega)]
          exact c2 k (by omega)
  · refine mt_kowB q1 oc ⟨by decide, by decide⟩ (fun q => absurd rfl q) ?_
    intro c h3 r1 r2 r3 r4
    have eo : x.bind (owx zc) = none := by
      rcases hR with ⟨a, -⟩ | ⟨o, a, b, c, c1, -⟩
      · rw [a]
        rfl
      · rw [a]
        exact ow_full (by omega)
    rw [eo]
    exact ⟨rfl, r1, r4.wide (fun c hc => ab_swr_ok (by decide) hc), Or.inl ⟨rfl, r2, r3, by rw [me_f (c := 7425) r4 q1 rfl rfl]; exact q2⟩⟩
end CPR
