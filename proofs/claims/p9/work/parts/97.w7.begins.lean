/-! the reference's begins: closed; study, all of it -/
theorem sh_e : ∀ q : Nat, q < 10 → ((Int32.ofInt (q : Int) &&& 31).toBitVec.smod 32).toNat = q := by decide
theorem sh_v (x : Int32) {q : Nat} (hq : q < 10) : (x >>> (Int32.ofInt (q : Int) &&& 31)).toBitVec = x.toBitVec.sshiftRight q := by
  show x.toBitVec.sshiftRight' ((Int32.ofInt (q : Int) &&& 31).toBitVec.smod 32) = _
  unfold BitVec.sshiftRight'
  rw [sh_e q hq]
theorem tb_64 (x : Int32) {q : Nat} (hq : q < 10) : tb x.toInt64 q = x.toBitVec.getLsbD q := by
  unfold tb
  rw [Int32.toBitVec_toInt64, BitVec.getLsbD_signExtend]
  simp [show q < 64 by omega, show q < 32 by omega]
theorem bit_v (x : Int32) {q : Nat} (hq : q < 10) : (Int32.ofInt (x >>> (Int32.ofInt (q : Int) &&& 31)).toInt &&& Int32.ofInt 1).toInt = if tb x.toInt64 q = true then 1 else 0 := by
  have e1 : Int32.ofInt (x >>> (Int32.ofInt (q : Int) &&& 31)).toInt = x >>> (Int32.ofInt (q : Int) &&& 31) := Int32.ofInt_toInt _
  rw [e1, tb_64 x hq]
  have e2 : (x.toBitVec.sshiftRight q).getLsbD 0 = x.toBitVec.getLsbD q := by
    rw [BitVec.getLsbD_sshiftRight]
    simp [show q < 32 by omega]
  have e3 : (x >>> (Int32.ofInt (q : Int) &&& 31) &&& Int32.ofInt 1).toBitVec = if x.toBitVec.getLsbD q = true then 1#32 else 0#32 := by
    show (x >>> (Int32.ofInt (q : Int) &&& 31)).toBitVec &&& 1#32 = _
    rw [sh_v x hq, ← e2]
    refine BitVec.eq_of_getLsbD_eq (fun i hi => ?_)
    rw [BitVec.getLsbD_and]
    by_cases c : i = 0
    · subst c
      cases (x.toBitVec.sshiftRight q).getLsbD 0 <;> rfl
    · have : (1#32).getLsbD i = false := by
        rw [BitVec.getLsbD_one]
        simp [c]
      rw [this, Bool.and_false]
      cases (x.toBitVec.sshiftRight q).getLsbD 0
      · exact (BitVec.getLsbD_zero).symm
      · exact this.symm
  show ((x >>> (Int32.ofInt (q : Int) &&& 31) &&& Int32.ofInt 1).toBitVec).toInt = _
  rw [e3]
  cases x.toBitVec.getLsbD q <;> rfl
/-- the bit as both sides test it -/
theorem bit_b (z : Int) {q : Nat} (hq : q < 10) : ((Int32.ofInt (Int32.ofInt z >>> (Int32.ofInt (q : Int) &&& 31)).toInt &&& Int32.ofInt 1).toInt = 1 ↔ tb (b64 z) q = true) ∧ (k_bit z q ↔ tb (b64 z) q = true) := by
  unfold k_bit b64
  rw [bit_v (Int32.ofInt z) hq]
  cases tb (Int32.ofInt z).toInt64 q
  · exact ⟨⟨fun q => absurd q (by decide), fun q => absurd q (by decide)⟩, ⟨fun q => absurd rfl q, fun q => absurd q (by decide)⟩⟩
  · exact ⟨⟨fun _ => rfl, fun _ => rfl⟩, ⟨fun _ => rfl, fun _ => by decide⟩⟩
section WBG
variable {d : Nat} {h0 : sm_H} {E : Nat → Nat → Prop}
def bg_I (E : Nat → Nat → Prop) (h0 h : sm_H) (q : Nat) (z : Int) : Prop := ab_Sh sx_sk h ∧ ab_Fr [(14848, 14849)] h0 h ∧ ∀ r : Nat, (r : Int) < mi_f h0 13961 → ∀ b, (tb (b64 (mi_a h 116 r)) b = true ↔ if (r : Int) < z then wa E (q + 1) r b else wa E q r b)
def bg_Q (E : Nat → Nat → Prop) (h0 : sm_H) (w : Option mi_V) (h' : sm_H) : Prop := w = none ∧ ab_Sh sx_sk h' ∧ ab_Fr [(14848, 14849)] h0 h' ∧ ∀ r : Nat, (r : Int) < mi_f h0 13961 → ∀ b, (tb (b64 (mi_a h' 116 r)) b = true ↔ wa E (mi_f h0 13961).toNat r b)
theorem wa_self {q b : Nat} : wa E (q + 1) q b ↔ wa E q q b := ⟨fun h => h.elim id (fun h => h.2), Or.inl⟩
theorem s277b (hS0 : ab_Sh sx_sk h0) : ∀ (N q : Nat) (q2 q3 : Option mi_V) (h : sm_H), 10 - q < N → (q : Int) ≤ mi_f h0 13961 → (∀ v, q2 = some v → mi_ok v) → (∀ v, q3 = some v → mi_ok v) → bg_I E h0 h q 0 → me_E (d + 3) 194 277 [some (.inr (.inr 109)), some (.inl (q : Int)), q2, q3] [] h (bg_Q E h0) := by
  have b10 := me_fb (c := 13961) hS0 rfl
  intro N
  induction N with
  | zero => intro q q2 q3 h hN _; exfalso; omega
  | succ N ih =>
    intro q q2 q3 h hN a1 o2 o3 hI
    have oa : mi_in (q : Int) := ⟨by omega, by omega⟩
    have e61 : mi_f h 13961 = mi_f h0 13961 := me_f (c := 13961) hI.2.1 hS0 rfl rfl
    have s287 : (q : Int) < mi_f h0 13961 → ∀ (M : Nat) (zb : Int) (h : sm_H), 10 - zb < M → 0 ≤ zb → zb ≤ mi_f h0 13961 → bg_I E h0 h q zb → me_E (d + 3) 194 287 [some (.inr (.inr 109)), some (.inl (q : Int)), some (.inl zb), q3] [] h (bg_Q E h0) := by
      intro lt M
      induction M with
      | zero => intro zb h hM _ _; exfalso; omega
      | succ M im =>
        intro zb h hM b0 b1 hI
        obtain ⟨i1, i2, i3⟩ := id hI
        have ob : mi_in zb := ⟨by omega, by omega⟩
        have e61 : mi_f h 13961 = mi_f h0 13961 := me_f (c := 13961) i2 hS0 rfl rfl
        have q10 : q < 10 := by omega
        have bq := fun z => (bit_b z q10).1
        refine mt_stP i1 oa ob o3 ?_ ?_ ?_
        · intro b c
          refine ⟨by omega, fun h1 g1 g2 => ?_⟩
          have e := me_nil g2
          subst e
          have ek : (q : Int) + 1 = ((q + 1 : Nat) : Int) := by omega
          rw [ek]
          refine ih (q + 1) _ _ _ (by omega) (by omega) (me_oi ob) o3 ⟨i1, i2, fun r hr b => ?_⟩
          have := i3 r hr b
          rw [if_pos (by omega)] at this
          rw [if_neg (by omega)]
          exact this
        · intro b c1 c2
          have hz : ¬ wa E q zb.toNat q := fun w => by
            have k := i3 zb.toNat (by omega) q
            rw [if_neg (by omega)] at k
            exact c2 ((bq _).mpr (k.mpr w))
          refine ⟨by omega, fun h1 g1 g2 g3 => im (zb + 1) h1 (by omega) (by omega) (by omega) ⟨g1, i2.trans g3, fun r hr b => ?_⟩⟩
          have k := i3 r hr b
          rw [g2]
          by_cases cr : r = zb.toNat
          · rw [if_pos cr, ← cr]
            rw [if_neg (by omega)] at k
            rw [if_pos (by omega)]
            rw [← cr] at hz
            exact ⟨fun x => Or.inl (k.mp x), fun x => x.elim k.mpr (fun x => absurd x.1 hz)⟩
          · rw [if_neg cr]
            by_cases cl : (r : Int) < zb
            · rw [if_pos cl] at k
              rw [if_pos (by omega)]
              exact k
            · rw [if_neg cl] at k
              rw [if_neg (by omega)]
              exact k
        · intro b c1 c2
          have hz : wa E q zb.toNat q := by
            have k := i3 zb.toNat (by omega) q
            rw [if_neg (by omega)] at k
            exact k.mp ((bq _).mp c2)
          have hq : ∀ b, (tb (b64 (mi_a h 116 q)) b = true ↔ wa E q q b) := fun b => by
            have k := i3 q lt b
            by_cases cl : (q : Int) < zb
            · rw [if_pos cl, wa_self] at k
              exact k
            · rw [if_neg cl] at k
              exact k
          refine ⟨by omega, fun h1 g1 g2 g3 => im (zb + 1) h1 (by omega) (by omega) (by omega) ⟨g1, i2.trans g3, fun r hr b => ?_⟩⟩
          have k := i3 r hr b
          rw [g2]
          by_cases cr : r = zb.toNat
          · rw [if_pos cr, ← cr]
            rw [if_neg (by omega)] at k
            rw [if_pos (by omega), b64_or, tb_or, Bool.or_eq_true, k]
            have hq' : tb (b64 (mi_a h 116 (Int.toNat (q : Int)))) b = true ↔ wa E q q b := hq b
            rw [hq']
            rw [← cr] at hz
            exact ⟨fun x => x.elim Or.inl (fun x => Or.inr ⟨hz, x⟩), fun x => x.elim Or.inl (fun x => Or.inr x.2)⟩
          · rw [if_neg cr]
            by_cases cl : (r : Int) < zb
            · rw [if_pos cl] at k
              rw [if_pos (by omega)]
              exact k
            · rw [if_neg cl] at k
              rw [if_neg (by omega)]
              exact k
    refine mt_stO hI.1 oa o2 o3 ?_ ?_
    · intro b c h1 g1 g2
      have e := me_nil g2
      subst e
      refine ⟨rfl, hI.1, hI.2.1, fun r hr b => ?_⟩
      have k := hI.2.2 r hr b
      have eq : q = (mi_f h0 13961).toNat := by omega
      rw [if_neg (by omega), eq] at k
      exact k
    · intro b c h1 g1 g2
      have e := me_nil g2
      subst e
      exact s287 (by omega) 20 0 _ (by omega) (by decide) (by omega) hI
theorem s244b {Y : wk_Y} (hL : sy_L h0 Y) (hS0 : ab_Sh sx_sk h0) : ∀ (N : Nat) (za : Int) (q2 q3 : Option mi_V) (h : sm_H), 10 - za < N → 0 ≤ za → za ≤ mi_f h0 13961 → (∀ v, q2 = some v → mi_ok v) → (∀ v, q3 = some v → mi_ok v) → ab_Sh sx_sk h → ab_Fr [(14848, 14849)] h0 h → (∀ r : Nat, (r : Int) < za → mi_a h 116 r = mi_a h0 141 (mi_a h0 114 r).toNat) → me_E (d + 3) 194 244 [some (.inr (.inr 109)), some (.inl za), q2, q3] [] h (bg_Q (fun r b => tb (lX h0 (mi_a h0 114 r).toNat) b = true) h0) := by
  have b10 := me_fb (c := 13961) hS0 rfl
  intro N
  induction N with
  | zero => intro za q2 q3 h hN _ _; exfalso; omega
  | succ N ih =>
    intro za q2 q3 h hN a0 a1 o2 o3 hS hF hv
    have oa : mi_in za := ⟨by omega, by omega⟩
    have hL1 := sy_L_fr hL hS0 (hF.wide (fun c hc => ab_swr_ok (by decide) hc))
    have h80 := hL1.1.2.1
    have e61 : mi_f h 13961 = mi_f h0 13961 := me_f (c := 13961) hF hS0 rfl rfl
    refine mt_stN hS oa o2 o3 ?_ ?_
    · intro b c h1 g1 g2
      have e := me_nil g2
      subst e
      refine s277b hS0 20 0 _ _ _ (by decide) b10.1 o2 o3 ⟨g1, hF, fun r hr b => ?_⟩
      rw [if_neg (by omega), hv r (by omega)]
      exact Iff.rfl
    · intro b c
      have := hL1.2.2.2.2 za a0 c
      refine ⟨by omega, fun h1 g1 g2 g3 => ih (za + 1) _ _ h1 (by omega) (by omega) (by omega) o2 o3 g1 (hF.trans g3) (fun r hr => ?_)⟩
      rw [g2]
      by_cases cr : r = za.toNat
      · rw [if_pos cr, cr, me_a (k := 114) hF hS0 rfl rfl, me_a (k := 141) hF hS0 rfl rfl]
      · rw [if_neg cr]
        exact hv r (by omega)
end WBG
/-- all that study leaves -/
def sz_Z (β : Int → Int64) (ρ : Int → List Int) (hb : sm_H) (w : Option mi_V) (h' : sm_H) : Prop := w = none ∧ ab_Sh sx_sk h' ∧ ab_Fr sy_W hb h' ∧ ∃ (j k : Nat) (W0 : sp_F), (sp_eq (mi_f hb 13965).toNat (rX h') (sr_k (GR (mi_a hb)) j) ∧ sp_fix (mi_f hb 13965).toNat (GR (mi_a hb)) (sr_k (GR (mi_a hb)) j) ∧ (∀ i : Nat, (i : Int) < mi_f hb 13965 → W0 i = if (i : Int) = mi_a hb 114 0 then 1 else 0) ∧ (∀ i : Nat, mx_b h' 138 i = sk_k (sr_k (GR (mi_a hb)) j) (GR (mi_a hb)) (mi_f hb 13965).toNat W0 k i) ∧ sw_sol (sr_k (GR (mi_a hb)) j) (mi_f hb 13965).toNat (GR (mi_a hb)) (sk_k (sr_k (GR (mi_a hb)) j) (GR (mi_a hb)) (mi_f hb 13965).toNat W0 k)) ∧
  (∀ u : Int, 0 ≤ u → u < mi_f hb 13963 → rq_ok (rv_p (mi_a hb)) (sr_k (GR (mi_a hb)) j) h' u) ∧
  (∃ X, sp_eq (mi_f hb 13965).toNat X (sr_k (GR (mi_a hb)) j) ∧ ∀ a : Int, 0 ≤ a → a < mi_f hb 13964 → ap_ok X h' a) ∧
  (∀ F : Nat, (F : Int) < mi_f hb 13965 → ∀ u, fr_of hb F u → mx_b h' 137 u.toNat = fw_v (mi_a hb) ρ (sr_k (GR (mi_a hb)) j) (sk_k (sr_k (GR (mi_a hb)) j) (GR (mi_a hb)) (mi_f hb 13965).toNat W0 k F) u) ∧
  (∀ F : Nat, (F : Int) < mi_f hb 13965 → lX h' F = lr_k β (GR (mi_a hb)) j F) ∧ (∀ F : Nat, (F : Int) < mi_f hb 13965 → lr_k β (GR (mi_a hb)) (j + 1) F = lr_k β (GR (mi_a hb)) j F) ∧
  ∀ r : Nat, (r : Int) < mi_f hb 13961 → ∀ b, (tb (b64 (mi_a h' 116 r)) b = true ↔ wa (fun r b => tb (lX h' (mi_a hb 114 r).toNat) b = true) (mi_f hb 13961).toNat r b)
section SZZ
variable {d : Nat} {hb : sm_H} {Y : wk_Y} {Q : Option mi_V → sm_H → Prop} {β : Int → Int64} {ρ : Int → List Int}
theorem st2l (hL : sy_L hb Y) (hSb : ab_Sh sx_sk hb) (K : ∀ (h : sm_H) (q2 q3 : Option mi_V), (∀ v, q2 = some v → mi_ok v) → (∀ v, q3 = some v → mi_ok v) → ab_Sh sx_sk h → ab_Fr sy_W hb h → (∀ i : Nat, (i : Int) < mi_f hb 13965 → (mi_a h 133 i = 0 ∧ mx_b h 136 i = 0 ∧ mi_a h 144 i = 1000 ∧ mi_a h 141 i = 0) ∧ mx_b h 138 i = if (i : Int) = mi_a hb 114 0 then 1 else 0) → mi_f h 13999 = 1 → me_E (d + 3) 194 74 [some (.inr (.inr 109)), some (.inl 0), q2, q3] [] h Q) : ∀ (N : Nat) (za : Int) (q2 q3 : Option mi_V) (h : sm_H), 80 - za < N → 0 ≤ za → za ≤ mi_f hb 13965 → (∀ v, q2 = some v → mi_ok v) → (∀ v, q3 = some v → mi_ok v) → ab_Sh sx_sk h → ab_Fr sy_W hb h → (∀ i : Nat, (i : Int) < za → (mi_a h 133 i = 0 ∧ mx_b h 136 i = 0 ∧ mi_a h 144 i = 1000 ∧ mi_a h 141 i = 0) ∧ mx_b h 138 i = if (i : Int) = mi_a hb 114 0 then 1 else 0) → me_E (d + 3) 194 2 [some (.inr (.inr 109)), some (.inl za), q2, q3] [] h Q := by
  have b80 := me_fb (c := 13965) hSb rfl
  intro N
  induction N with
  | zero => intro za q2 q3 h hN a0 a1; exfalso; omega
  | succ N ih =>
    intro za q2 q3 h hN a0 a1 o2 o3 hS hF hv
    have oa : mi_in za := ⟨by omega, by omega⟩
    have e65 : mi_f h 13965 = mi_f hb 13965 := me_f (c := 13965) hF hSb rfl rfl
    have e114 : mi_a h 114 (Int.toNat 0) = mi_a hb 114 0 := me_a (k := 114) hF hSb rfl rfl
    refine mt_stB hS oa o2 o3 ?_ ?_ ?_
    · intro b c1 h1 s1 s2 s3
      refine K h1 q2 q3 o2 o3 s1 (hF.trans (s3.wide (fun c hc => ab_swr_ok (by decide) hc))) (fun i hi => ?_) s2
      rw [me_a (k := 133) s3 hS rfl rfl, me_b (k := 136) s3 hS rfl rfl, me_a (k := 144) s3 hS rfl rfl, me_b (k := 138) s3 hS rfl rfl, me_a (k := 141) s3 hS rfl rfl]
      exact hv i (by omega)
    · intro b c1 c2
      refine ⟨by omega, fun h1 s1 s2 s3 s4 s5 s6 s7 => ih (za + 1) _ _ h1 (by omega) (by omega) (by omega) o2 o3 s1 (hF.trans (s7.wide (fun c hc => ab_swr_ok (by decide) hc))) (fun i hi => ?_)⟩
      rw [s2, s3, s4, s5, s6]
      by_cases ci : i = za.toNat
      · rw [if_pos ci, if_pos ci, if_pos ci, if_pos ci, if_pos ci, if_neg (by rw [e114] at c2; omega)]
        exact ⟨⟨rfl, rfl, rfl, rfl⟩, rfl⟩
      · rw [if_neg ci, if_neg ci, if_neg ci, if_neg ci, if_neg ci]
        exact hv i (by omega)
    · intro b c1 c2
      refine ⟨by omega, fun h1 s1 s2 s3 s4 s5 s6 s7 => ih (za + 1) _ _ h1 (by omega) (by omega) (by omega) o2 o3 s1 (hF.trans (s7.wide (fun c hc => ab_swr_ok (by decide) hc))) (fun i hi => ?_)⟩
      rw [s2, s3, s4, s5, s6]
      by_cases ci : i = za.toNat
      · rw [if_pos ci, if_pos ci, if_pos ci, if_pos ci, if_pos ci, if_pos (by rw [e114] at c2; omega)]
        exact ⟨⟨rfl, rfl, rfl, rfl⟩, rfl⟩
      · rw [if_neg ci, if_neg ci, if_neg ci, if_neg ci, if_neg ci]
        exact hv i (by omega)
theorem me_studyz (hβ : bt_ok β hb) (hρ : rh_ok hb ρ) (hL : sy_L hb Y) (hA : sy_A hb) (hSb : ab_Sh sx_sk hb) : me_E (d + 3) 194 0 [some (.inr (.inr 109)), none, none, none] [] hb (sz_Z β ρ hb) := by
  have b80 := me_fb (c := 13965) hSb rfl
  have b10 := me_fb (c := 13961) hSb rfl
  refine mt_stA hSb (fun h1 g1 g2 => ?_)
  have e0 := me_nil g2
  subst e0
  refine st2l hL hSb (fun h2 q2 q3 o2 o3 s1 s2 s3 s4 => ?_) 81 0 none none h1 (by decide) (by decide) b80.1 me_on me_on hSb ab_Fr.refl (fun i hi => by omega)
  refine st74l (β := β) (W := mx_b h2 138) hβ hL hA hSb (fun h3 j q2 q3 o2 o3 hj t1 => ?_) 901 0 q2 q3 h2 (by decide) (by decide) o2 o3 ⟨⟨⟨s1, s2, rfl⟩, fun F hF => ?_, fun _ => by omega, fun j ej => by omega⟩, fun F hF => ?_, fun j ej => by omega⟩
  · obtain ⟨⟨⟨b1, b2, b3⟩, j2, j3, j4⟩, l1, l2, Z, l3, l4⟩ := hj
    refine sz169f (ρ := ρ) (X := sr_k (GR (mi_a h1)) j) (h0 := h3) (W0 := mx_b h2 138) hρ hL hSb (fun h4 k q2 q3 o2 o3 hB hW hs hf => ?_) 901 0 q2 q3 h3 (by decide) (by decide) o2 o3 ⟨b1, b2, ab_Fr.refl, j4⟩ b3 (fun _ => by omega) (fun j ej => by omega)
    have hL4 := sy_L_fr hL hSb hB.2.1
    have e61 : mi_f h4 13961 = mi_f h1 13961 := me_f (c := 13961) hB.2.1 hSb rfl rfl
    have e34 : rv_eq h3 h4 := rv_eq_fr hB.2.2.1 b1 rfl
    refine (s244b hL4 hB.1 20 0 q2 q3 h4 (by decide) (by decide) (by omega) o2 o3 hB.1 ab_Fr.refl (fun r hr => by omega)).imp (fun w h' hq => ?_)
    obtain ⟨r1, r2, r3, r4⟩ := hq
    have eL : lX h' = lX h4 := lX_fr r3 hB.1 rfl
    have eL3 : lX h4 = lX h3 := lX_fr hB.2.2.1 b1 rfl
    have e4 : rv_eq h4 h' := rv_eq_fr r3 hB.1 rfl
    refine ⟨r1, r2, hB.2.1.trans (r3.wide (fun c hc => ab_swr_ok (by decide) hc)), j, k, mx_b h2 138, ⟨?_, j3, fun i hi => (s3 i hi).2, fun i => ?_, hs⟩, fun u u0 u1 => ?_, ⟨Z, l3, fun a a0 a1 => ap_ok_fr r3 hB.1 e4 rfl (ap_ok_fr hB.2.2.1 b1 e34 rfl (l4 a a0 a1))⟩, fun F hF u hu => ?_, fun F hF => ?_, l2, fun r hr b => ?_⟩
    · rw [rX_fr r3 hB.1 rfl, rX_fr hB.2.2.1 b1 rfl]
      exact j2
    · rw [me_b (k := 138) r3 hB.1 rfl rfl, hW]
    · obtain ⟨x1, x2⟩ := hB.2.2.2 u u0 u1
      exact ⟨(me_a (k := 131) r3 hB.1 rfl rfl).trans x1, (me_b (k := 134) r3 hB.1 rfl rfl).trans x2⟩
    · rw [me_b (k := 137) r3 hB.1 rfl rfl]
      exact hf F hF u hu
    · rw [eL, eL3]
      exact l1 F hF
    · have k := r4 r (by omega) b
      rw [e61] at k
      rw [k, eL]
      have e114 : ∀ r, mi_a h4 114 r = mi_a h1 114 r := fun r => me_a (k := 114) hB.2.1 hSb rfl rfl
      simp only [e114]
  · obtain ⟨⟨x1, x2, x3, -⟩, -⟩ := s3 F (by omega)
    exact ⟨x1, x2, x3⟩
  · obtain ⟨⟨-, -, -, x4⟩, -⟩ := s3 F hF
    unfold lX
    rw [x4]
    rfl
end SZZ
