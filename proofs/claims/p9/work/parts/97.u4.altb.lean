/-! the class's Sets: an alternative's begins -/
def cB (h : sm_H) : sp_X := (mi_a h 79, fun F => b64 (mi_a h 83 F), mi_a h 82)
def at_same (h h' : sm_H) (a : Nat) : Prop := mi_a h' 84 a = mi_a h 84 a ∧ mx_b h' 85 a = mx_b h 85 a ∧ mi_a h' 87 a = mi_a h 87 a
def rb_Q (hb h : sm_H) (za ze zb : Int) (row : List Int) (w : Option mi_V) (h' : sm_H) : Prop := w = none ∧ ab_Sh sx_sk h' ∧ ab_Fr ra_V hb h' ∧
  b64 (mi_a h' 86 za.toNat) = (if ze ≠ 0 then b64 zb ||| sb_a (cB hb) (row.map (cv_p hb)) else b64 zb) ∧ ∀ i : Nat, i ≠ za.toNat → at_same h h' i
theorem cB_fr {h h' : sm_H} {wr : List (Nat × Nat)} (hF : ab_Fr wr h h') (hS : ab_Sh sx_sk h) (hw : (ab_in wr 10112 || ab_in wr 10624 || ab_in wr 10496) = false) : cB h' = cB h := by
  simp only [Bool.or_eq_false_iff] at hw
  unfold cB
  rw [show mi_a h' 79 = mi_a h 79 from funext fun i => me_a (k := 79) hF hS rfl hw.1.1, show mi_a h' 83 = mi_a h 83 from funext fun i => me_a (k := 83) hF hS rfl hw.1.2, show mi_a h' 82 = mi_a h 82 from funext fun i => me_a (k := 82) hF hS rfl hw.2]
section RBL
variable {d : Nat} {hb : sm_H} {U za : Int}
theorem me_beginsx {h : sm_H} {zu : Int} (hS : ab_Sh sx_sk h) (u0 : 0 ≤ zu) (u1 : zu < 60) (hg : gf_v h zu = -1 ∨ (0 ≤ gf_v h zu ∧ gf_v h zu < 70)) : me_E (d + 2) 73 0 [some (.inr (.inr 78)), some (.inl zu), none, none] [] h (fun w h' => h' = h ∧ ∃ z, w = some (.inl z) ∧ mi_in z ∧ b64 z = cb_C (cB h).2.1 (cv_p h zu)) := by
  have ou : mi_in zu := ⟨by omega, by omega⟩
  have og : mi_in (gf_v h zu) := ⟨by omega, by omega⟩
  refine mt_ybgA hS ou (fun h1 g1 g2 => ?_)
  have e0 := me_nil g2
  subst e0
  refine ⟨_, me_gformIn (d := d) hS u0 u1, fun w h2 oww hq => ?_⟩
  obtain ⟨rfl, rfl⟩ := hq
  have P1 : (cv_p h2 zu).1 = gf_v h2 zu := rfl
  have P2 : (cv_p h2 zu).2.1 = if mi_a h2 68 zu.toNat = 9 then 1 else 0 := rfl
  refine mt_ybgB hS ou og (fun c1 c2 c3 => ?_) (fun c1 c2 c3 c4 => ?_) (fun c1 c2 c3 c4 => ?_) (fun c1 c2 c3 c4 => ?_) (fun c1 c2 c3 c4 c5 => ?_) (fun c1 c2 c3 c4 c5 => ?_) (fun c1 c2 c3 c4 c5 => ?_) (fun c1 c2 c3 c4 c5 c6 => ?_) (fun c1 c2 c3 c4 c5 c6 => ⟨⟨⟨u0, u1⟩, c5, c6⟩, fun h3 g1 g2 => ⟨me_nil g2, _, rfl, mi_inT _, ?_⟩⟩) (fun c1 c2 c3 c4 c5 => ?_) (fun c1 c2 c3 c4 c5 c6 => ?_) (fun c1 c2 c3 c4 c5 c6 => ⟨⟨⟨u0, u1⟩, c5, c6⟩, fun h3 g1 g2 => ⟨me_nil g2, _, rfl, mi_inT _, ?_⟩⟩) (fun c1 h3 g1 g2 => ⟨me_nil g2, _, rfl, fm_in0, ?_⟩)
  · exfalso; omega
  · exfalso; omega
  · exfalso; omega
  · exfalso; omega
  · exfalso; omega
  · exfalso; omega
  · exfalso; omega
  · exfalso; omega
  · rw [b64_or, b64_0, or_0l]
    unfold cb_C
    rw [P1, P2, if_pos c5, if_neg c4, if_neg (fun q => q rfl)]
    rfl
  · exfalso; omega
  · exfalso; omega
  · rw [b64_or]
    unfold cb_C
    rw [P1, P2, if_pos c5, if_pos c4, if_pos (by decide)]
    have : b64 (Int32.ofInt 1 <<< (Int32.ofInt (gf_v h2 zu) &&& 31)).toInt = bitC (gf_v h2 zu) := by
      unfold b64 bitC
      rw [Int32.ofInt_toInt]
    rw [this]
    rfl
  · unfold cb_C
    rw [P1, if_neg (by omega)]
    rfl
theorem rb_exit {ze zb zh zp zn : Int} {zs : Int64} {h : sm_H} (a0 : 0 ≤ za) (a1 : za < 66) (hS : ab_Sh sx_sk h) (hF : ab_Fr ra_V hb h) (e01 : ze = 0 ∨ ze = 1) (ob : mi_in zb) (oh : mi_in zh) (h0 : 0 ≤ zh) (op : mi_in zp) (on : mi_in zn) : me_E (d + 4) 69 124 [some (.inr (.inr 78)), some (.inl za), some (.inl ze), some (.inr (.inl zs)), none, some (.inl zb), some (.inl zh), some (.inl zp), some (.inl zn)] [] h (rb_Q hb h za ze zb []) := by
  have oa : mi_in za := ⟨by omega, by omega⟩
  have oe : mi_in ze := ⟨by omega, by omega⟩
  refine mt_raH hS oa oe ob oh op on ?_ ?_ ?_ ?_ ?_ ?_
  · intro c1 c2; exfalso; omega
  · intro c1 c2 c3; exfalso; omega
  · intro c1 c2 c3
    refine ⟨by omega, fun h1 s1 s2 s3 s4 s5 s6 => ⟨rfl, s1, hF.trans (s6.wide (fun c hc => ab_swr_ok (by decide) hc)), ?_, fun i hi => ⟨by rw [s2, if_neg hi], by rw [s5, if_neg hi], by rw [s4, if_neg hi]⟩⟩⟩
    rw [s3, if_pos rfl, if_neg (fun q => q c1)]
  · intro c1 c2; exfalso; omega
  · intro c1 c2 c3; exfalso; omega
  · intro c1 c2 c3
    refine ⟨by omega, fun h1 s1 s2 s3 s4 s5 s6 => ⟨rfl, s1, hF.trans (s6.wide (fun c hc => ab_swr_ok (by decide) hc)), ?_, fun i hi => ⟨by rw [s2, if_neg hi], by rw [s5, if_neg hi], by rw [s4, if_neg hi]⟩⟩⟩
    rw [s3, if_pos rfl, if_pos c1]
    exact (or_0r (b64 zb)).symm
theorem rb_loop (hSb : ab_Sh sx_sk hb) (hU : cv_u hb U) (h01 : sp_01 70 (cX hb)) (hH : ∀ F : Nat, F < 70 → mi_a hb 82 F ≤ 1000) (a0 : 0 ≤ za) (a1 : za < 66) : ∀ (N : Nat) (ze zb zh zp zn : Int) (zs : Int64) (h : sm_H), (N : Int) = 60 - zn → 0 ≤ zn → (ze = 0 ∨ ze = 1) → mi_in zb → 0 ≤ zh → zh ≤ 1000 → (zp = -1 ∨ (0 ≤ zp ∧ zp < U)) → ab_Sh sx_sk h → ab_Fr ra_V hb h → me_E (d + 4) 69 26 [some (.inr (.inr 78)), some (.inl za), some (.inl ze), some (.inr (.inl zs)), none, some (.inl zb), some (.inl zh), some (.inl zp), some (.inl zn)] [] h (rb_Q hb h za ze zb (cv_row hb N zp)) := by
  have oa : mi_in za := ⟨by omega, by omega⟩
  have hU60 := hU.1
  intro N
  induction N with
  | zero =>
    intro ze zb zh zp zn zs h hN n0 e01 ob h0 h1 hp hS hF
    have oe : mi_in ze := ⟨by omega, by omega⟩
    have oh : mi_in zh := ⟨by omega, by omega⟩
    have op : mi_in zp := ⟨by omega, by omega⟩
    have on : mi_in zn := ⟨by omega, by omega⟩
    refine mt_raB hS oa oe ob oh op on ?_ ?_ ?_
    · intro c1 h2 g1 g2
      have e0 := me_nil g2
      subst e0
      exact rb_exit a0 a1 hS hF e01 ob oh h0 op on
    · intro c1 c2 h2 g1 g2
      have e0 := me_nil g2
      subst e0
      exact rb_exit a0 a1 hS hF e01 ob oh h0 op on
    · intro c1 c2; exfalso; omega
  | succ N ih =>
    intro ze zb zh zp zn zs h hN n0 e01 ob h0 h1 hp hS hF
    have oe : mi_in ze := ⟨by omega, by omega⟩
    have oh : mi_in zh := ⟨by omega, by omega⟩
    have op : mi_in zp := ⟨by omega, by omega⟩
    have on : mi_in zn := ⟨by omega, by omega⟩
    refine mt_raB hS oa oe ob oh op on ?_ ?_ ?_
    · intro c1 h2 g1 g2
      have e0 := me_nil g2
      subst e0
      have er : cv_row hb (N + 1) zp = [] := by rw [cv_row_c, if_pos c1]
      rw [er]
      exact rb_exit a0 a1 hS hF e01 ob oh h0 op on
    · intro c1 c2; exfalso; omega
    · intro c1 c2 h2 g1 g2
      have e0 := me_nil g2
      subst e0
      have p01 : 0 ≤ zp ∧ zp < U := hp.resolve_left c1
      obtain ⟨w1, w2, w3⟩ := hU.2 zp p01.1 p01.2
      have er : cv_row hb (N + 1) zp = zp :: cv_row hb N (mi_a hb 71 zp.toNat) := by rw [cv_row_c, if_neg c1]
      have eP : cv_p h2 = cv_p hb := cv_p_fr hF hSb rfl
      have eX : cX h2 = cX hb := cX_fr hF hSb rfl
      have eg : gf_v h2 zp = gf_v hb zp := gf_fr hF hSb rfl
      refine ⟨_, me_refreshPart (d := d) hS p01.1 (by omega) (by rw [eg]; exact w2) (by rw [me_a (k := 68) hF hSb rfl rfl, me_a (k := 69) hF hSb rfl rfl]; exact w3), fun w h3 oww hq => ?_⟩
      obtain ⟨rfl, s1, s2, s3, s4⟩ := hq
      rw [eP, eX] at s3 s4
      have F3 : ab_Fr ra_V hb h3 := hF.trans (s2.wide (fun c hc => ab_swr_ok (by decide) hc))
      have p89 : mi_a h3 89 zp.toNat = sp_v (cX hb) (cv_p hb zp) := by rw [s3, if_pos rfl]
      have p90 : mx_b h3 90 zp.toNat = sp_s (cX hb) (cv_p hb zp) := by rw [s4, if_pos rfl]
      have e71 : mi_a h3 71 zp.toNat = mi_a hb 71 zp.toNat := me_a (k := 71) F3 hSb rfl rfl
      have e72 : mi_a h3 72 zp.toNat = mi_a hb 72 zp.toNat := me_a (k := 72) F3 hSb rfl rfl
      have ez : (zp.toNat : Int) = zp := Int.toNat_of_nonneg p01.1
      /- behind this part -/
      have T99 : ∀ (ze' zb' : Int) (zs' : Int64), (ze' = 0 ∨ ze' = 1) → mi_in zb' → (ze' ≠ 0 ↔ (ze ≠ 0 ∧ sp_e (cX hb) (cv_p hb zp))) → b64 zb' = (if ze ≠ 0 then b64 zb ||| cb_C (cB hb).2.1 (cv_p hb zp) else b64 zb) → me_E (d + 4) 69 99 [some (.inr (.inr 78)), some (.inl za), some (.inl ze'), some (.inr (.inl zs')), none, some (.inl zb'), some (.inl zh), some (.inl zp), some (.inl zn)] [.inl (min 1000 (sp_h (cX hb) (cv_p hb zp))), .inl zh] h3 (rb_Q hb h2 za ze zb (cv_row hb (N + 1) zp)) := by
        intro ze' zb' zs' q1 q2 q3 q4
        have oe' : mi_in ze' := ⟨by omega, by omega⟩
        have oc : mi_in (min 1000 (sp_h (cX hb) (cv_p hb zp))) := by
          have : -2147483648 ≤ sp_h (cX hb) (cv_p hb zp) := by
            unfold sp_h
            split
            · decide
            · split
              · have x := (mi_inT (mx_a hb 82 (cv_p hb zp).1.toNat)).1
                have x : -2147483648 ≤ mi_a hb 82 (cv_p hb zp).1.toNat := x
                show -2147483648 ≤ mi_a hb 82 (cv_p hb zp).1.toNat + (if mi_a hb 68 zp.toNat = 9 then 1 else 0)
                split <;> omega
              · decide
          exact ⟨by omega, by omega⟩
        have go : ∀ zm, zm = max zh (min 1000 (sp_h (cX hb) (cv_p hb zp))) → me_E (d + 4) 69 26 [some (.inr (.inr 78)), some (.inl za), some (.inl ze'), some (.inr (.inl zs')), none, some (.inl zb'), some (.inl zm), some (.inl (mi_a h3 71 (Int.toNat zp))), some (.inl (zn + 1))] [] h3 (rb_Q hb h2 za ze zb (cv_row hb (N + 1) zp)) := by
          intro zm ezm
          rw [e71]
          refine (ih ze' zb' zm (mi_a hb 71 zp.toNat) (zn + 1) zs' h3 (by omega) (by omega) q1 q2 (by omega) (by omega) (by omega) s1 F3).imp (fun w h' hq => ?_)
          obtain ⟨r1, r2, r3, r4, r5⟩ := hq
          rw [er]
          refine ⟨r1, r2, r3, ?_, fun i hi => ⟨(r5 i hi).1.trans (me_a (k := 84) s2 hS rfl rfl), (r5 i hi).2.1.trans (me_b (k := 85) s2 hS rfl rfl), (r5 i hi).2.2.trans (me_a (k := 87) s2 hS rfl rfl)⟩⟩
          rw [r4, q4, List.map_cons]
          rw [sb_a_c]
          by_cases ce : ze ≠ 0
          · rw [if_pos ce, if_pos ce]
            by_cases cp : sp_e (cX hb) (cv_p hb zp)
            · rw [if_pos (show sp_e (cB hb) (cv_p hb zp) from cp), if_pos (q3.mpr ⟨ce, cp⟩), or_as]
            · rw [if_neg (show ¬ sp_e (cB hb) (cv_p hb zp) from cp), if_neg (fun q => cp (q3.mp q).2)]
          · rw [if_neg ce, if_neg ce, if_neg (fun q => ce (q3.mp q).1)]
        refine mt_raG s1 oa oe' q2 oh op on oc oh ?_ ?_ ?_ ?_ ?_ ?_
        · intro k1 k2; exfalso; omega
        · intro k1 k2 k3; exfalso; omega
        · intro k1 k2 k3
          refine ⟨by omega, fun h4 g1 g2 => ?_⟩
          have e0 := me_nil g2
          subst e0
          exact go _ (by omega)
        · intro k1 k2; exfalso; omega
        · intro k1 k2 k3; exfalso; omega
        · intro k1 k2 k3
          refine ⟨by omega, fun h4 g1 g2 => ?_⟩
          have e0 := me_nil g2
          subst e0
          exact go _ (by omega)
      have HC : ∀ h4, h4 = h3 → me_E (d + 3) 75 0 [some (.inr (.inr 78)), some (.inl zp), none, none] [] h4 (fun w h' => h' = h4 ∧ w = some (.inl (min 1000 (sp_h (cX hb) (cv_p hb zp))))) := by
        intro h4 e4
        subst e4
        have := me_heightc (d := d) (zu := zp) s1 p01.1 (by omega) (by rw [gf_fr F3 hSb rfl]; exact w2) (fun F hF' => by rw [me_a (k := 82) F3 hSb rfl rfl]; exact hH F hF')
        rw [cv_p_fr F3 hSb rfl, cX_fr F3 hSb rfl] at this
        exact this
      have ie : sp_e (cX hb) (cv_p hb zp) ↔ (mi_a h3 72 zp.toNat ≠ 0 ∨ mi_a h3 89 zp.toNat = 1) := by
        unfold sp_e
        rw [e72, p89]
        have v01 := cv_v01 (zu := zp) h01 w2
        constructor
        · rintro (q | q)
          · refine Or.inl (fun x => q ?_)
            show (if mi_a hb 72 zp.toNat = 0 then (0 : Int) else if mi_a hb 72 zp.toNat = 5 then 1 else 2) = 0
            rw [if_pos x]
          · exact Or.inr (v01.resolve_left q)
        · rintro (q | q)
          · refine Or.inl ?_
            show (if mi_a hb 72 zp.toNat = 0 then (0 : Int) else if mi_a hb 72 zp.toNat = 5 then 1 else 2) ≠ 0
            rw [if_neg q]
            split <;> decide
          · exact Or.inr (by rw [q]; decide)
      have T72 : ∀ (zb' : Int) (zs' : Int64), mi_in zb' → b64 zb' = (if ze ≠ 0 then b64 zb ||| cb_C (cB hb).2.1 (cv_p hb zp) else b64 zb) → me_E (d + 4) 69 72 [some (.inr (.inr 78)), some (.inl za), some (.inl ze), some (.inr (.inl zs')), none, some (.inl zb'), some (.inl zh), some (.inl zp), some (.inl zn)] [] h3 (rb_Q hb h2 za ze zb (cv_row hb (N + 1) zp)) := by
        intro zb' zs' q2 q4
        refine mt_raE s1 oa oe q2 oh op on ?_ ?_
        · intro k1 h4 g1 g2
          have e0 := me_nil g2
          refine ⟨_, HC h4 e0, fun w h5 oww hq => ?_⟩
          obtain ⟨rfl, rfl⟩ := hq
          rw [e0]
          exact T99 0 zb' zs' (Or.inl rfl) q2 ⟨fun q => absurd rfl q, fun q => absurd k1 q.1⟩ q4
        · intro k1 h4 g1 g2
          have e0 := me_nil g2
          subst e0
          refine ⟨_, me_mayBePassed (d := d + 1) s1 p01.1 (by omega), fun w h5 oww hq => ?_⟩
          obtain ⟨rfl, z, rfl, z01, hz⟩ := hq
          refine mt_raF s1 oa oe q2 oh op on ⟨by omega, by omega⟩ ?_ ?_
          · intro k2 h6 g1 g2
            have e0 := me_nil g2
            refine ⟨_, HC h6 e0, fun w h7 oww hq => ?_⟩
            obtain ⟨rfl, rfl⟩ := hq
            rw [e0]
            exact T99 0 zb' zs' (Or.inl rfl) q2 ⟨fun q => absurd rfl q, fun q => by have := hz.mpr (ie.mp q.2); omega⟩ q4
          · intro k2 h6 g1 g2
            have e0 := me_nil g2
            refine ⟨_, HC h6 e0, fun w h7 oww hq => ?_⟩
            obtain ⟨rfl, rfl⟩ := hq
            rw [e0]
            exact T99 1 zb' zs' (Or.inr rfl) q2 ⟨fun _ => ⟨k1, ie.mpr (hz.mp (by omega))⟩, fun _ => by decide⟩ q4
      refine mt_raC s1 oa oe ob oh op on ?_ ?_ ?_ ?_
      · intro k1 h4 g1 g2
        have e0 := me_nil g2
        subst e0
        exact T72 zb zs ob (by rw [if_neg (fun q => q k1)])
      · intro k1 k2; exfalso; omega
      · intro k1 k2 k3; exfalso; omega
      · intro k1 k2 k3
        refine ⟨by omega, fun h4 g1 g2 => ?_⟩
        have e0 := me_nil g2
        subst e0
        refine ⟨_, me_beginsx (d := d + 1) (zu := zp) s1 p01.1 (by omega) (by rw [gf_fr F3 hSb rfl]; exact w2), fun w h5 oww hq => ?_⟩
        obtain ⟨rfl, z, rfl, oz, ebz⟩ := hq
        rw [cB_fr F3 hSb rfl, cv_p_fr F3 hSb rfl] at ebz
        refine mt_raD s1 oa oe ob oh op on oz ob (fun h6 g1 g2 => ?_)
        have e0 := me_nil g2
        subst e0
        refine T72 _ _ (mi_inT _) ?_
        rw [if_pos k1, b64_or, ebz]
theorem me_refreshAltB {h : sm_H} (hSb : ab_Sh sx_sk hb) (hU : cv_u hb U) (h01 : sp_01 70 (cX hb)) (hH : ∀ F : Nat, F < 70 → mi_a hb 82 F ≤ 1000) (a0 : 0 ≤ za) (a1 : za < 66) (hp : mi_a hb 65 za.toNat = -1 ∨ (0 ≤ mi_a hb 65 za.toNat ∧ mi_a hb 65 za.toNat < U)) (hS : ab_Sh sx_sk h) (hF : ab_Fr ra_V hb h) : me_E (d + 4) 69 0 [some (.inr (.inr 78)), some (.inl za), none, none, none, none, none, none, none] [] h (rb_Q hb h za 1 0 (cv_row hb 60 (mi_a hb 65 za.toNat))) := by
  refine mt_raA hS ⟨by omega, by omega⟩ ?_ ?_ ?_
  · intro c1; exfalso; omega
  · intro c1 c2; exfalso; omega
  · intro c1 c2
    refine ⟨by omega, fun h1 g1 g2 => ?_⟩
    have e0 := me_nil g2
    subst e0
    rw [me_a (k := 65) hF hSb rfl rfl]
    exact rb_loop hSb hU h01 hH a0 a1 60 1 0 0 _ 0 0 h1 (by decide) (by decide) (Or.inr rfl) fm_in0 (by decide) (by decide) hp hS hF
end RBL
