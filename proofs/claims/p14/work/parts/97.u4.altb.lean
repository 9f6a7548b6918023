/-! the class's Sets: an alternative's begins -/
def cB (h : sm_H) : sp_X := (mi_a h 79, fun F => b64 (mi_a h 83 F), mi_a h 82)
def at_same (h h' : sm_H) (a : Nat) : Prop := mi_a h' 84 a = mi_a h 84 a ∧ mx_b h' 85 a = mx_b h 85 a ∧ mi_a h' 87 a = mi_a h 87 a
def rb_Q (hb h : sm_H) (za ze zb : Int) (row : List Int) (w : Option mi_V) (h' : sm_H) : Prop := w = none ∧ ab_Sh sx_sk h' ∧ ab_Fr ra_V hb h' ∧
  b64 (mi_a h' 86 za.toNat) = (if ze ≠ 0 then b64 zb ||| sb_a (cB hb) (row.map (cv_p hb)) else b64 zb) ∧ ∀ i : Nat, i ≠ za.toNat → at_same h h' i
theorem cB_fr {h h' : sm_H} {wr : List (Nat × Nat)} (hF : ab_Fr wr h h') (hS : ab_Sh sx_sk h) (hw : (ab_in wr 10112 || ab_in wr 10624 || ab_in wr 10496) = false) : cB h' = cB h := by
  simp only [Bool.or_eq_false_iff] at hw
  unfold cB
  rw [show mi_a h' 79 = mi_a h 79 from funext fun i => me_a (k := 79) hF hS rfl hw.1.1, show mi_a h' 83 = mi_a h 83 from funext fun i => me_a (k := 83) hF hS rfl hw.1.2, show mi_a h' 82 = mi_a h 82 from funext fun i => me_a (k := 82) hF hS rfl hw.2]
section RBL
variable {d : Nat} {hb : sm_H} {U za : Int}
theorem me_beginsx {h : sm_H} {zu : Int} (hS : ab_Sh sx_sk h) (u0 : 0 ≤ zu) (u1 : zu < 60) (hg : gf_v h zu = -1 ∨ (0 ≤ gf_v h zu ∧ gf_v h zu < 70)) : me_E (d + 2) 73 0 [some (.inr (.inr 78)), some (.inl zu), none, none] [] h (fun w h' => h' = h ∧ ∃ z, w = some (.inl z) ∧ mi_in z ∧ b64 z = cb_C (cB h).2.1 (cv_p h zu)) := by
  have ou : mi_in zu := ⟨by omega, by omega⟩
  have og : mi_in (gf_v h zu) := ⟨by omega, by omega⟩
  refine mt_ybgA hS ou (fun h1 g1 g2 => ?_)
  have e0 := me_nil g2
  subst e0
  refine ⟨_, me_gformIn (d := d) hS u0 u1, fun w h2 oww hq => ?_⟩
  obtain ⟨rfl, rfl⟩ := hq
  have P1 : (cv_p h2 zu).1 = gf_v h2 zu := rfl
  have P2 : (cv_p h2 zu).2.1 = if mi_a h2 68 zu.toNat = 9 then 1 else 0 := rfl
  refine mt_ybgB hS ou og (fun c1 c2 c3 => ?_) (fun c1 c2 c3 c4 => ?_) (fun c1 c2 c3 c4 => ?_) (fun c1 c2 c3 c4 => ?_) (fun c1 c2 c3 c4 c5 => ?_) (fun c1 c2 c3 c4 c5 => ?_) (fun c1 c2 c3 c4 c5 => ?_) (fun c1 c2 c3 c4 c5 c6 => ?_) (fun c1 c2 c3 c4 c5 c6 => ⟨⟨⟨u0, u1⟩, c5, c6⟩, fun h3 g1 g2 => ⟨me_nil g2, _, rfl, mi_inT _, ?_⟩⟩) (fun c1 c2 c3 c4 c5 => ?_) (fun c1 c2 c3 c4 c5 c6 => ?_) (fun c1 c2 c3 c4 c5 c6 => ⟨⟨⟨u0, u1⟩, c5, c6⟩, fun h3 g1 g2 => ⟨me_nil g2, _, rfl, mi_inT _, ?_⟩⟩) (fun c1 h3 g1 g2 => ⟨me_nil g2, _, rfl, fm_in0, ?_⟩)
  · exfalso; omega
  · exfalso; omega
  · exfalso; omega
  · exfalso; omega
  · exfalso; omega
  · exfalso; omega
  · exfalso; omega
  · exfalso; omega
  · rw [b64_or, b64_0, or_0l]
    unfold cb_C
    rw [P1, P2, if_pos c5, if_neg c4, if_neg (fun q => q rfl)]
    rfl
  · exfalso; omega
  · exfalso; omega
  · rw [b64_or]
    unfold cb_C
    rw [P1, P2, if_pos c5, if_pos c4, if_pos (by decide)]
    have : b64 (Int32.ofInt 1 <<< (Int32.ofInt (gf_v h2 zu) &&& 31)).toInt = bitC (gf_v h2 zu) := by
      unfold b64 bitC
      rw [Int32.ofInt_toInt]
    rw [this]
    rfl
  · unfold cb_C
    rw [P1, if_neg (by omega)]
    rfl
theorem rb_exit {ze zb zh zp zn : Int} {zs : Int64} {h : sm_H} (a0 : 0 ≤ za) (a1 : za < 66) (hS : ab_Sh sx_sk h) (hF : ab_Fr ra_V hb h) (e01 : ze = 0 ∨ ze = 1) (ob : mi_in zb) (oh : mi_in zh) (h0 : 0 ≤ zh) (op : mi_in zp) (on : mi_in zn) : me_E (d + 4) 69 124 [some (.inr (.inr 78)), some (.inl za), some (.inl ze), some (.inr (.inl zs)), none, some (.inl zb), some (.inl zh), some (.inl zp), some (.inl zn)] [] h (rb_Q hb h za ze zb []) := by
  have oa : mi_in za := ⟨by omega, by omega⟩
  have oe : mi_in ze := ⟨by omega, by omega⟩
  refine mt_raH hS oa oe ob oh op on ?_ ?_ ?_ ?_ ?_ ?_
  · intro c1 c2; exfalso; omega
  · intro c1 c2 c3; exfalso; omega
  · intro c1 c2 c3
    refine ⟨by omega, fun h1 s1 s2 s3 s4 s5 s6 => ⟨rfl, s1, hF.trans (s6.wide (fun c hc => ab_swr_ok (by decide) hc)), ?_, fun i hi => ⟨by rw [s2, if_neg hi], by rw [s5, if_neg hi], by rw [s4, if_neg hi]⟩⟩⟩
    rw [s3, if_pos rfl, if_neg (fun q => q c1)]
  · intro c1 c2; exfalso; omega
  · intro c1 c2 c3; exfalso; omega
  · intro c1 c2 c3
    refine ⟨by omega, fun h1 s1 s2 s3 s4 s5 s6 => ⟨rfl, s1, hF.trans (s6.wide (fun c hc => ab_swr_ok (by decide) hc)), ?_, fun i hi => ⟨by rw [s2, if_neg hi], by rw [s5, if_neg hi], by rw [s4, if_neg hi]⟩⟩⟩
    rw [s3, if_pos rfl, if_pos c1]
    exact (or_0r (b64 zb)).symm
theorem rb_loop (hSb : ab_Sh sx_sk hb) (hU : cv_u hb U) (h01 : sp_01 70 (cX hb)) (hH : ∀ F : Nat, F < 70 → mi_a hb 82 F ≤ 1000) (a0 : 0 ≤ za) (a1 : za < 66) : ∀ (N : Nat) (ze zb zh zp zn : Int) (zs : Int64) (h : sm_H), (N : Int) = 60 - zn → 0 ≤ zn → (ze = 0 ∨ ze = 1) → mi_in zb → 0 ≤ zh → zh ≤ 1000 → (zp = -1 ∨ (0 ≤ zp ∧ zp < U)) → ab_Sh sx_sk h → ab_Fr ra_V hb h → me_E (d + 4) 69 26 [some (.inr (.inr 78)), some (.inl za), some (.inl ze), some (.inr (.inl zs)), none, some (.inl zb), some (.inl zh), some (.inl zp), some (.inl zn)] [] h (rb_Q hb h za ze zb (cv_row hb N zp)) := by
  have oa : mi_in za := ⟨by omega, by omega⟩
  have hU60 := hU.1
  intro N
  induction N with
  | zero =>
    intro ze zb zh zp zn zs h hN n0 e01 ob h0 h1 hp hS hF
    have oe : mi_in ze := ⟨by omega, by omega⟩
    have oh : mi_in zh := ⟨by omega, by omega⟩
    have op : mi_in zp := ⟨by omega, by omega⟩
    have on : mi_in zn := ⟨by omega, by omega⟩
    refine mt_raB hS oa oe ob oh op on ?_ ?_ ?_
    · intro c1 h2 g1 g2
      have e0 := me_nil g2
      subst e0
      exact rb_exit a0 a1 hS hF e01 ob oh h0 op on
    · intro c1 c2 h2 g1 g2
      have e0 := me_nil g2
      subst e0
      exact rb_exit a0 a1 hS hF e01 ob oh h0 op on
    · intro c1 c2; exfalso; omega
  | succ N ih =>
    intro ze zb zh zp zn zs h hN n0 e01 ob h0 h1 hp hS hF
    have oe : mi_in ze := ⟨by omega, by omega⟩
    have oh : mi_in zh := ⟨by omega, by omega⟩
    have op : mi_in zp := ⟨by omega, by omega⟩
    have on : mi_in zn := ⟨by omega, by omega⟩
    refine mt_raB hS oa oe ob oh op on ?_ ?_ ?_
    · intro c1 h2 g1 g2
      have e0 := me_nil g2
      subst e0
      have er : cv_row hb (N + 1) zp = [] := by rw [cv_row_c, if_pos c1]
      rw [er]
      exact rb_exit a0 a1 hS hF e01 ob oh h0 op on
    · intro c1 c2; exfalso; omega
    · intro c1 c2 h2 g1 g2
      have e0 := me_nil g2
      subst e0
      have p01 : 0 ≤ zp ∧ zp < U := hp.resolve_left c1
      obtain ⟨w1, w2, w3⟩ := hU.2 zp p01.1 p01.2
      have er : cv_row hb (N + 1) zp = zp :: cv_row hb N (mi_a hb 71 zp.toNat) := by rw [cv_row_c, if_neg c1]
      have eP : cv_p h2 = cv_p hb := cv_p_fr hF hSb rfl
      have eX : cX h2 = cX hb := cX_fr hF hSb rfl
      have eg : gf_v h2 zp = gf_v hb zp := gf_fr hF hSb rfl
      refine ⟨_, me_refreshPart (d := d) hS p01.1 (by omega) (by rw [eg]; exact w2) (by rw [me_a (k := 68) hF hSb rfl rfl, me_a (k := 69) hF hSb rfl rfl]; exact w3), fun w h3 oww hq => ?_⟩
      obtain ⟨rfl, s1, s2, s3, s4⟩ := hq
      rw [eP, eX] at s3 s4
      have F3 : ab_Fr ra_V hb h3 := hF.trans (s2.wide (fun c hc => ab_swr_ok (by decide) hc))
      have p89 : mi_a h3 89 zp.toNat = sp_v (cX hb) (cv_p hb zp) := by rw [s3, if_pos rfl]
      have p90 : mx_b h3 90 zp.toNat = sp_s (cX hb) (cv_p hb zp) := by rw [s4, if_pos rfl]
      have e71 : mi_a h3 71 zp.toNat = mi_a hb 71 zp.toNat := me_a (k := 71) F3 hSb rfl rfl
      have e72 : mi_a h3 72 zp.toNat = mi_a hb 72 zp.toNat := me_a (k := 72) F3 hSb rfl rfl
      have ez : (zp.toNat : Int) = zp := Int.toNat_of_nonneg p01.1
      /- behind this part -/
      have T99 : ∀ (ze' zb' : Int) (zs' : Int64), (ze' = 0 ∨ ze' = 1) → mi_in zb' → (ze' ≠ 0 ↔ (ze ≠ 0 ∧ sp_e (cX hb) (cv_p hb zp))) → b64 zb' = (if ze ≠ 0 then b64 zb ||| cb_C (cB hb).2.1 (cv_p hb zp) else b64 zb) → me_E (d + 4) 69 99 [some (.inr (.inr 78)), some (.inl za), some (.inl ze'), some (.inr (.inl zs')), none, some (.inl zb'), some (.inl zh), some (.inl zp), some (.inl zn)] [.inl (min 1000 (sp_h (cX hb) (cv_p hb zp))), .inl zh] h3 (rb_Q hb h2 za ze zb (cv_row hb (N + 1) zp)) := by
        intro ze' zb' zs' q1 q2 q3 q4
        have oe' : mi_in ze' := ⟨by omega, by omega⟩
        have oc : mi_in (min 1000 (sp_h (cX hb) (cv_p hb zp))) := by
          have : -2147483648 ≤ sp_h (cX hb) (cv_p hb zp) := by
            unfold sp_h
            split
            · decide
            · split
              · have x := (mi_inT (mx_a hb 82 (cv_p hb zp).1.toNat)).1
                have x : -2147483648 ≤ mi_a hb 82 (cv_p hb zp).1.toNat := x
                show -2147483648 ≤ mi_a hb 82 (cv_p hb zp).1.toNat + (if mi_a hb 68 zp.toNat = 9 then 1 else 0)
                split <;> omega
              · decide
          exact ⟨by omega, by omega⟩
        have go : ∀ zm, zm = max zh (min 1000 (sp_h (cX hb) (cv_p hb zp))) → me_E (d + 4) 69 26 [some (.inr (.inr 78)), some (.inl za), some (.inl ze'), some (.inr (.inl zs')), none, some (.inl zb'), some (.inl zm), some (.inl (mi_a h3 71 (Int.toNat zp))), some (.inl (zn + 1))] [] h3 (rb_Q hb h2 za ze zb (cv_row hb (N + 1) zp)) := by
          intro zm ezm
          rw [e71]
          refine (ih ze' zb' zm (mi_a hb 71 zp.toNat) (zn + 1) zs' h3 (by omega) (by omega) q1 q2 (by omega) (by omega) (by omega) s1 F3).imp (fun w h' hq => ?_)
          obtain ⟨r1, r2, r3, r4, r5⟩ := hq
          rw [er]
          refine ⟨r1, r2, r3, ?_, fun i hi => ⟨(r5 i hi).1.trans (me_a (k := 84) s2 hS rfl rfl), (r5 i hi).2.1.trans (me_b (k := 85) s2 hS rfl rfl), (r5 i hi).2.2.trans (me_a (k := 87) s2 hS rfl rfl)⟩⟩
          rw [r4, q4, List.map_cons]
          rw [sb_a_c]
          by_cases ce : ze ≠ 0
          · rw [if_pos ce, if_pos ce]
            by_cases cp : sp_e (cX hb) (cv_p hb zp)
            · rw [if_pos (show sp_e (cB hb) (cv_p hb zp) from cp), if_pos (q3.mpr ⟨ce, cp⟩), or_as]
            · rw [if_neg (show ¬ sp_e (cB hb) (cv_p hb zp) from cp), if_neg (fun q => cp (q3.mp q).2)]
          · rw [if_neg ce, if_neg ce, if_neg (fun q => ce (q3.mp q).1)]
        refine mt_raG s1 oa oe' q2 oh op on oc oh ?_ ?_ ?_ ?_ ?_ ?_
        · intro k1 k2; exfalso; omega
        · intro k1 k2 k3; exfalso; omega
        · intro k1 k2 k3
          refine ⟨by omega, fun h4 g1 g2 => ?_⟩
          have e0 := me_nil g2
          subst e0
          exact go _ (by omega)
        · intro k1 k2; exfalso; omega
        · intro k1 k2 k3; exfalso; omega
        · intro k1 k2 k3
          refine ⟨by omega, fun h4 g1 g2 => ?_⟩
          have e0 := me_nil g2
          subst e0
          exact go _ (by omega)
      have HC : ∀ h4, h4 = h3 → me_E (d + 3) 75 0 [some (.inr (.inr 78)), some (.inl zp), none, none] [] h4 (fun w h' => h' = h4 ∧ w = some (.inl (min 1000 (sp_h (cX hb) (cv_p hb zp))))) := by
        intro h4 e4
        subst e4
        have := me_heightc (d := d) (zu := zp) s1 p01.1 (by omega) (by rw [gf_fr F3 hSb rfl]; exact w2) (fun F hF' => by rw [me_a (k := 82) F3 hSb rfl rfl]; exact hH F hF')
        rw [cv_p_fr F3 hSb rfl, cX_fr F3 hSb rfl] at this
        exact this
      have ie : sp_e (cX hb) (cv_p hb zp) ↔ (mi_a h3 72 zp.toNat ≠ 0 ∨ mi_a h3 89 zp.toNat = 1) := by
        unfold sp_e
        rw [e72, p89]
        have v01 := cv_v01 (zu := zp) h01 w2
        constructor
        · rintro (q | q)
          · refine Or.inl (fun x => q ?_)
            show (if mi_a hb 72 zp.toNat = 0 then (0 : Int) else if mi_a hb 72 zp.toNat = 5 then 1 else 2) = 0
            rw [if_pos x]
          · exact Or.inr (v01.resolve_left q)
        · rintro (q | q)
          · refine Or.inl ?_
            show (if mi_a hb 72 zp.toNat = 0 then (0 : Int) else if mi_a hb 72 zp.toNat = 5 then 1 else 2) ≠ 0
            rw [if_neg q]
            split <;> decide
          · exact Or.inr (by rw [q]; decide)
      have T72 : ∀ (zb' : Int) (zs' : Int64), mi_in zb' → b64 zb' = (if ze ≠ 0 then b64 zb ||| cb_C (cB hb).2.1 (cv_p hb zp) else b64 zb) → me_E (d + 4) 69 72 [some (.inr (.inr 78)), some (.inl za), some (.inl ze), some (.inr (.inl zs')), none, some (.inl zb'), some (.inl zh), some (.inl zp), some (.inl zn)] [] h3 (rb_Q hb h2 za ze zb (cv_row hb (N + 1) zp)) := by
        intro zb' zs' q2 q4
        refine mt_raE s1 oa oe q2 oh op on ?_ ?_
        · intro k1 h4 g1 g2
          have e0 := me_nil g2
          refine ⟨_, HC h4 e0, fun w h5 oww hq => ?_⟩
          obtain ⟨rfl, rfl⟩ := hq
          rw [e0]
          exact T99 0 zb' zs' (Or.inl rfl) q2 ⟨fun q => absurd rfl q, fun q => absurd k1 q.1⟩ q4
        · intro k1 h4 g1 g2
          have e0 := me_nil g2
          subst e0
          refine ⟨_, me_mayBePassed (d := d + 1) s1 p01.1 (by omega), fun w h5 oww hq => ?_⟩
          obtain ⟨rfl, z, rfl, z01, hz⟩ := hq
          refine mt_raF s1 oa oe q2 oh op on ⟨by omega, by omega⟩ ?_ ?_
          · intro k2 h6 g1 g2
            have e0 := me_nil g2
            refine ⟨_, HC h6 e0, fun w h7 oww hq => ?_⟩
            obtain ⟨rfl, rfl⟩ := hq
            rw [e0]
            exact T99 0 zb' zs' (Or.inl rfl) q2 ⟨fun q => absurd rfl q, fun q => by have := hz.mpr (ie.mp q.2); omega⟩ q4
          · intro k2 h6 g1 g2
            have e0 := me_nil g2
            refine ⟨_, HC h6 e0, fun w h7 oww hq => ?_⟩
            obtain ⟨rfl, rfl⟩ := hq
            rw [e0]
            exact T99 1 zb' zs' (Or.inr rfl) q2 ⟨fun _ => ⟨k1, ie.mpr (hz.mp (by omega))⟩, fun _ => by decide⟩ q4
      refine mt_raC s1 oa oe ob oh op on ?_ ?_ ?_ ?_
      · intro k1 h4 g1 g2
        have e0 := me_nil g2
        subst e0
        exact T72 zb zs ob (by rw [if_neg (fun q => q k1)])
      · intro k1 k2; exfalso; omega
      · intro k1 k2 k3; exfalso; omega
      · intro k1 k2 k3
        refine ⟨by omega, fun h4 g1 g2 => ?_⟩
        have e0 := me_nil g2
        subst e0
        refine ⟨_, me_beginsx (d := d + 1) (zu := zp) s1 p01.1 (by omega) (by rw [gf_fr F3 hSb rfl]; exact w2), fun w h5 oww hq => ?_⟩
        obtain ⟨rfl, z, rfl, oz, ebz⟩ := hq
        rw [cB_fr F3 hSb rfl, cv_p_fr F3 hSb rfl] at ebz
        refine mt_raD s1 oa oe ob oh op on oz ob (fun h6 g1 g2 => ?_)
        have e0 := me_nil g2
        subst e0
        refine T72 _ _ (mi_inT _) ?_
        rw [if_pos k1, b64_or, ebz]
theorem me_refreshAltB {h : sm_H} (hSb : ab_Sh sx_sk hb) (hU : cv_u hb U) (h01 : sp_01 70 (cX hb)) (hH : ∀ F : Nat, F < 70 → mi_a hb 82 F ≤ 1000) (a0 : 0 ≤ za) (a1 : za < 66) (hp : mi_a hb 65 za.toNat = -1 ∨ (0 ≤ mi_a hb 65 za.toNat ∧ mi_a hb 65 za.toNat < U)) (hS : ab_Sh sx_sk h) (hF : ab_Fr ra_V hb h) : me_E (d + 4) 69 0 [some (.inr (.inr 78)), some (.inl za), none, none, none, none, none, none, none] [] h (rb_Q hb h za 1 0 (cv_row hb 60 (mi_a hb 65 za.toNat))) := by
  refine mt_raA hS ⟨by omega, by omega⟩ ?_ ?_ ?_
  · intro c1; exfalso; omega
  · intro c1 c2; exfalso; omega
  · intro c1 c2
    refine ⟨by omega, fun h1 g1 g2 => ?_⟩
    have e0 := me_nil g2
    subst e0
    rw [me_a (k := 65) hF hSb rfl rfl]
    exact rb_loop hSb hU h01 hH a0 a1 60 1 0 0 _ 0 0 h1 (by decide) (by decide) (Or.inr rfl) fm_in0 (by decide) (by decide) hp hS hF
end RBL
/-! the class's Sets: a form's begins, and its alternatives -/
theorem sX_v (v h h' : Nat → Int) (t t' : Nat → Int64) : ∀ us, sa_v (v, t, h) us = sa_v (v, t', h') us := by
  intro us
  induction us with
  | nil => rfl
  | cons p r ih =>
    rw [sa_v_c, sa_v_c, ih]
    rfl
theorem sX_h (v v' h : Nat → Int) (t t' : Nat → Int64) : ∀ us, sa_h (v, t, h) us = sa_h (v', t', h) us := by
  intro us
  induction us with
  | nil => rfl
  | cons p r ih =>
    rw [sa_h_c, sa_h_c, ih]
    rfl
theorem sX_fv (v h h' : Nat → Int) (t t' : Nat → Int64) : ∀ as, sf_v (v, t, h) as = sf_v (v, t', h') as := by
  intro as
  induction as with
  | nil => rfl
  | cons a r ih => rw [sf_v_c, sf_v_c, ih, sX_v v h h' t t']
theorem sX_fh (v v' h : Nat → Int) (t t' : Nat → Int64) : ∀ as, sf_h (v, t, h) as = sf_h (v', t', h) as := by
  intro as
  induction as with
  | nil => rfl
  | cons a r ih => rw [sf_h_c, sf_h_c, ih, sX_h v v' h t t']
theorem sb_f_app (X : sp_X) : ∀ (as bs : List (List sp_P)), sb_f X (as ++ bs) = sb_f X as ||| sb_f X bs := by
  intro as bs
  induction as with
  | nil => exact (or_0l _).symm
  | cons a r ih => rw [List.cons_append, sb_f_c, sb_f_c, ih, or_as]
/-- an alternative's own void and starts -/
def at_ok (hb : sm_H) (X : sp_X) (h : sm_H) (a : Nat) : Prop := mi_a h 84 a = sa_v X ((cv_l hb a).map (cv_p hb)) ∧ mx_b h 85 a = sa_s X ((cv_l hb a).map (cv_p hb)) ∧ mi_a h 87 a = min 1000 (sa_h X ((cv_l hb a).map (cv_p hb)))
def ro_Q (hb : sm_H) (zf : Int) (w : Option mi_V) (h' : sm_H) : Prop := w = none ∧ ab_Sh sx_sk h' ∧ ab_Fr rm_W hb h' ∧ cB h' = su (bG (GC hb)) zf.toNat (cB hb) ∧ (mi_f h' 9999 = 0 → mi_f hb 9999 = 0 ∧ cB h' = cB hb) ∧
  (∀ a ∈ cv_as hb (cv_n hb zf.toNat) (mi_a hb 63 zf.toNat), at_ok hb (cX hb) h' a.toNat) ∧ ∀ i : Nat, (∀ a ∈ cv_as hb (cv_n hb zf.toNat) (mi_a hb 63 zf.toNat), a.toNat ≠ i) → at_same hb h' i
section ROF
variable {d : Nat} {hb : sm_H} {U zf : Int}
/-- the loop is through: as is what was looked at -/
theorem ro_exit {as : List Int} {ze zb zh za zn : Int} {zs : Int64} {h : sm_H} (hSb : ab_Sh sx_sk hb) (f0 : 0 ≤ zf) (f1 : zf < 70) (hS : ab_Sh sx_sk h) (hF : ab_Fr ra_V hb h) (eas : as = cv_as hb (cv_n hb zf.toNat) (mi_a hb 63 zf.toNat)) (ev : ze = sf_v (cX hb) (as.map (fun a => (cv_l hb a).map (cv_p hb)))) (eb : b64 zb = sb_f (cB hb) (as.map (fun a => (cv_l hb a).map (cv_p hb)))) (eh : zh = sf_h (cX hb) (as.map (fun a => (cv_l hb a).map (cv_p hb)))) (p1 : ∀ a ∈ as, at_ok hb (cX hb) h a.toNat) (p2 : ∀ i : Nat, (∀ a ∈ as, a.toNat ≠ i) → at_same hb h i) (oe : mi_in ze) (ob : mi_in zb) (oh : mi_in zh) (oa : mi_in za) (on : mi_in zn) : me_E (d + 5) 68 131 [some (.inr (.inr 78)), some (.inl zf), some (.inl ze), some (.inr (.inl zs)), none, some (.inl zb), some (.inl zh), some (.inl za), some (.inl zn)] [] h (ro_Q hb zf) := by
  have of : mi_in zf := ⟨by omega, by omega⟩
  have eG : as.map (fun a => (cv_l hb a).map (cv_p hb)) = GC hb zf.toNat := by rw [eas]; rfl
  rw [eG] at ev eb eh
  obtain ⟨G1, G2, G3⟩ := bG_f (X := cB hb) (GC hb zf.toNat)
  have ev : ze = sf_v (cB hb) (bG (GC hb) zf.toNat) := ev.trans ((sX_fv _ _ _ _ _ _).trans G1.symm)
  have eh : zh = sf_h (cB hb) (bG (GC hb) zf.toNat) := eh.trans ((sX_fh _ _ _ _ _ _).trans G3.symm)
  have eb : b64 zb = sf_s (cB hb) (bG (GC hb) zf.toNat) := eb.trans G2.symm
  have e79 : mi_a h 79 zf.toNat = mi_a hb 79 zf.toNat := me_a (k := 79) hF hSb rfl rfl
  have e82 : mi_a h 82 zf.toNat = mi_a hb 82 zf.toNat := me_a (k := 82) hF hSb rfl rfl
  have e83 : mi_a h 83 zf.toNat = mi_a hb 83 zf.toNat := me_a (k := 83) hF hSb rfl rfl
  have e99 : mi_f h 9999 = mi_f hb 9999 := me_f (c := 9999) hF hSb rfl rfl
  have go : ∀ h1, ab_Sh sx_sk h1 → ab_Fr [(9999, 10000)] h h1 → (mi_f h1 9999 = 0 → mi_f h 9999 = 0 ∧ ze = mi_a h 79 zf.toNat ∧ zb = mi_a h 83 zf.toNat ∧ zh = mi_a h 82 zf.toNat) → me_E (d + 5) 68 198 [some (.inr (.inr 78)), some (.inl zf), some (.inl ze), some (.inr (.inl zs)), none, some (.inl zb), some (.inl zh), some (.inl za), some (.inl zn)] [] h1 (ro_Q hb zf) := by
    intro h1 s1 s2 s3
    refine mt_rmE s1 of oe ob oh oa on ?_ ?_ ?_
    · intro c1; exfalso; omega
    · intro c1 c2; exfalso; omega
    · intro c1 c2
      refine ⟨by omega, fun h2 t1 t2 t3 t4 t5 t6 => ?_⟩
      have F1 : ab_Fr rm_W hb h1 := (hF.wide (fun c hc => ab_swr_ok (by decide) hc)).trans (s2.wide (fun c hc => ab_swr_ok (by decide) hc))
      have F2 : ab_Fr rm_W hb h2 := F1.trans (t6.wide (fun c hc => ab_swr_ok (by decide) hc))
      have a79 : ∀ i, mi_a h1 79 i = mi_a hb 79 i := fun i => (me_a (k := 79) s2 hS rfl rfl).trans (me_a (k := 79) hF hSb rfl rfl)
      have a82 : ∀ i, mi_a h1 82 i = mi_a hb 82 i := fun i => (me_a (k := 82) s2 hS rfl rfl).trans (me_a (k := 82) hF hSb rfl rfl)
      have a83 : ∀ i, mi_a h1 83 i = mi_a hb 83 i := fun i => (me_a (k := 83) s2 hS rfl rfl).trans (me_a (k := 83) hF hSb rfl rfl)
      have a84 : ∀ i, mi_a h2 84 i = mi_a h 84 i := fun i => (me_a (k := 84) t6 s1 rfl rfl).trans (me_a (k := 84) s2 hS rfl rfl)
      have a85 : ∀ i, mx_b h2 85 i = mx_b h 85 i := fun i => (me_b (k := 85) t6 s1 rfl rfl).trans (me_b (k := 85) s2 hS rfl rfl)
      have a87 : ∀ i, mi_a h2 87 i = mi_a h 87 i := fun i => (me_a (k := 87) t6 s1 rfl rfl).trans (me_a (k := 87) s2 hS rfl rfl)
      have eX : cB h2 = su (bG (GC hb)) zf.toNat (cB hb) := by
        unfold su
        refine Prod.ext (funext fun i => ?_) (Prod.ext (funext fun i => ?_) (funext fun i => ?_))
        · show mi_a h2 79 i = if i = zf.toNat then _ else mi_a hb 79 i
          rw [t2, a79, ev]
        · show b64 (mi_a h2 83 i) = if i = zf.toNat then _ else b64 (mi_a hb 83 i)
          rw [t4, a83]
          by_cases ci : i = zf.toNat
          · rw [if_pos ci, if_pos ci, eb]
          · rw [if_neg ci, if_neg ci]
        · show mi_a h2 82 i = if i = zf.toNat then _ else mi_a hb 82 i
          rw [t3, a82, eh]
      refine ⟨rfl, t1, F2, eX, fun q => ?_, fun a ha => ?_, fun i hi => ?_⟩
      · have q1 : mi_f h1 9999 = 0 := (me_f (c := 9999) t6 s1 rfl rfl).symm.trans q
        obtain ⟨x1, x2, x3, x4⟩ := s3 q1
        refine ⟨e99.symm.trans x1, ?_⟩
        rw [e79] at x2
        rw [e83] at x3
        rw [e82] at x4
        unfold cB
        refine Prod.ext (funext fun i => ?_) (Prod.ext (funext fun i => ?_) (funext fun i => ?_))
        · show mi_a h2 79 i = mi_a hb 79 i
          rw [t2, a79]
          by_cases ci : i = zf.toNat
          · rw [if_pos ci, ci]; exact x2
          · rw [if_neg ci]
        · show b64 (mi_a h2 83 i) = b64 (mi_a hb 83 i)
          rw [t4, a83]
          by_cases ci : i = zf.toNat
          · rw [if_pos ci, ci, x3]
          · rw [if_neg ci]
        · show mi_a h2 82 i = mi_a hb 82 i
          rw [t3, a82]
          by_cases ci : i = zf.toNat
          · rw [if_pos ci, ci]; exact x4
          · rw [if_neg ci]
      · rw [← eas] at ha
        obtain ⟨x1, x2, x3⟩ := p1 a ha
        exact ⟨(a84 _).trans x1, (a85 _).trans x2, (a87 _).trans x3⟩
      · rw [← eas] at hi
        obtain ⟨x1, x2, x3⟩ := p2 i hi
        exact ⟨(a84 _).trans x1, (a85 _).trans x2, (a87 _).trans x3⟩
  refine mt_rmD hS of oe ob oh oa on ?_ ?_ ?_ ?_ ?_ ?_ ?_ ?_ ?_ ?_ ?_ ?_ ?_ ?_ ?_ ?_
  · intro b k1 h1 s1 s2 s3
    exact go h1 s1 s3 (fun q => by omega)
  · intro b k1 k2; exfalso; omega
  · intro b k1 k2; exfalso; omega
  · intro b k1 k2; exfalso; omega
  · intro b k1 k2; exfalso; omega
  · intro b k1 k2; exfalso; omega
  · intro b k1 k2 k3; exfalso; omega
  · intro b k1 k2 k3; exfalso; omega
  · intro b k1 k2 k3; exfalso; omega
  · intro b k1 k2 k3; exfalso; omega
  · intro b k1 k2 k3; exfalso; omega
  · intro b k1 k2 k3 k4
    exact ⟨by omega, fun h1 s1 s2 s3 => go h1 s1 s3 (fun q => by omega)⟩
  · intro b k1 k2 k3 k4 k5
    exact ⟨by omega, fun h1 s1 s2 s3 => go h1 s1 s3 (fun q => by omega)⟩
  · intro b k1 k2 k3 k4 k5 k6
    exact ⟨by omega, fun h1 s1 s2 s3 => go h1 s1 s3 (fun q => by omega)⟩
  · intro b k1 k2 k3 k4 k5 k6 k7
    exact ⟨by omega, fun h1 s1 s2 s3 => go h1 s1 s3 (fun q => ⟨k1, k4, k6, k7⟩)⟩
  · intro b k1 k2 k3 k4 k5 k6 k7
    exact ⟨by omega, fun h1 s1 s2 s3 => go h1 s1 s3 (fun q => by omega)⟩
theorem ro_loop (hSb : ab_Sh sx_sk hb) (hU : cv_u hb U) (h01 : sp_01 70 (cX hb)) (hH : ∀ F : Nat, F < 70 → mi_a hb 82 F ≤ 1000) (f0 : 0 ≤ zf) (f1 : zf < 70) : ∀ (m : Nat) (as : List Int) (ze zb zh za zn : Int) (zs : Int64) (h : sm_H), (m : Int) + zn = cv_n hb zf.toNat → 0 ≤ zn → cv_al hb U m za → as ++ cv_as hb m za = cv_as hb (cv_n hb zf.toNat) (mi_a hb 63 zf.toNat) → mi_in zb → mi_in za → ze = sf_v (cX hb) (as.map (fun a => (cv_l hb a).map (cv_p hb))) → b64 zb = sb_f (cB hb) (as.map (fun a => (cv_l hb a).map (cv_p hb))) → zh = sf_h (cX hb) (as.map (fun a => (cv_l hb a).map (cv_p hb))) → 0 ≤ zh → (∀ a ∈ as, at_ok hb (cX hb) h a.toNat) → (∀ i : Nat, (∀ a ∈ as, a.toNat ≠ i) → at_same hb h i) → ab_Sh sx_sk h → ab_Fr ra_V hb h → me_E (d + 5) 68 28 [some (.inr (.inr 78)), some (.inl zf), some (.inl ze), some (.inr (.inl zs)), none, some (.inl zb), some (.inl zh), some (.inl za), some (.inl zn)] [] h (ro_Q hb zf) := by
  have of : mi_in zf := ⟨by omega, by omega⟩
  intro m
  induction m with
  | zero =>
    intro as ze zb zh za zn zs h hN n0 hal eas ob oa ev eb eh h0 p1 p2 hS hF
    have e01 := sf_v_01 (cX hb) (as.map (fun a => (cv_l hb a).map (cv_p hb)))
    rw [← ev] at e01
    have h1000 := sf_h_1000 (cX hb) (as.map (fun a => (cv_l hb a).map (cv_p hb)))
    rw [← eh] at h1000
    have oe : mi_in ze := ⟨by omega, by omega⟩
    have oh : mi_in zh := ⟨by omega, by omega⟩
    have cn : cv_n hb zf.toNat ≤ 6 := by unfold cv_n; omega
    have on : mi_in zn := ⟨by omega, by omega⟩
    have e64 : mi_a h 64 zf.toNat = mi_a hb 64 zf.toNat := me_a (k := 64) hF hSb rfl rfl
    have eas : as = cv_as hb (cv_n hb zf.toNat) (mi_a hb 63 zf.toNat) := by rw [← eas]; exact (List.append_nil as).symm
    refine mt_rmB hS of oe ob oh oa on ?_ ?_ ?_ ?_ ?_ ?_ ?_ ?_ ?_
    · intro c1; exfalso; omega
    · intro c1; exfalso; omega
    · intro c1; exfalso; omega
    · intro c1 c2; exfalso; omega
    · intro c1 c2; exfalso; omega
    · intro c1 c2; exfalso; omega
    · intro c1 c2 c3
      refine ⟨by omega, fun h1 g1 g2 => ?_⟩
      have e0 := me_nil g2
      subst e0
      exact ro_exit hSb f0 f1 hS hF eas ev eb eh p1 p2 oe ob oh oa on
    · intro c1 c2 c3 c4
      refine ⟨by omega, fun h1 g1 g2 => ?_⟩
      have e0 := me_nil g2
      subst e0
      exact ro_exit hSb f0 f1 hS hF eas ev eb eh p1 p2 oe ob oh oa on
    · intro c1 c2 c3 c4
      exfalso
      rw [e64] at c3
      unfold cv_n at hN
      omega
  | succ m ih =>
    intro as ze zb zh za zn zs h hN n0 hal eas ob oa ev eb eh h0 p1 p2 hS hF
    obtain ⟨⟨a0, a1⟩, hp, hal'⟩ := hal
    have e01 := sf_v_01 (cX hb) (as.map (fun a => (cv_l hb a).map (cv_p hb)))
    rw [← ev] at e01
    have h1000 := sf_h_1000 (cX hb) (as.map (fun a => (cv_l hb a).map (cv_p hb)))
    rw [← eh] at h1000
    have oe : mi_in ze := ⟨by omega, by omega⟩
    have oh : mi_in zh := ⟨by omega, by omega⟩
    have cn : cv_n hb zf.toNat ≤ 6 := by unfold cv_n; omega
    have on : mi_in zn := ⟨by omega, by omega⟩
    have e64 : mi_a h 64 zf.toNat = mi_a hb 64 zf.toNat := me_a (k := 64) hF hSb rfl rfl
    have lt : zn < mi_a hb 64 zf.toNat := by unfold cv_n at hN; omega
    have eas' : (as ++ [za]) ++ cv_as hb m (mi_a hb 66 za.toNat) = cv_as hb (cv_n hb zf.toNat) (mi_a hb 63 zf.toNat) := by
      rw [← eas, List.append_assoc]
      all_goals rfl
    refine mt_rmB hS of oe ob oh oa on ?_ ?_ ?_ ?_ ?_ ?_ ?_ ?_ ?_
    · intro c1; exfalso; omega
    · intro c1; exfalso; omega
    · intro c1; exfalso; omega
    · intro c1 c2; exfalso; omega
    · intro c1 c2; exfalso; omega
    · intro c1 c2; exfalso; omega
    · intro c1 c2 c3
      exfalso
      rw [e64] at c3
      omega
    · intro c1 c2 c3 c4; exfalso; omega
    · intro c1 c2 c3 c4
      refine ⟨by omega, fun h1 g1 g2 => ?_⟩
      have e0 := me_nil g2
      subst e0
      refine ⟨_, (me_refreshAlternative (d := d) hSb hU h01 hH a0 a1 hp hS hF).and (me_refreshAltB (d := d) hSb hU h01 hH a0 a1 hp hS hF), fun w h2 oww hq => ?_⟩
      obtain ⟨⟨rfl, s1, s2, s3, s4, s5, -, -⟩, -, -, -, v1, v2⟩ := hq
      rw [if_pos (by decide)] at s3 s4 v1
      have el : cv_row hb 60 (mi_a hb 65 za.toNat) = cv_l hb za := rfl
      rw [el] at s3 s4 s5 v1
      rw [b64_0, or_0l] at v1
      have ezn : ((za.toNat : Nat) : Int) = za := Int.toNat_of_nonneg a0
      have z0 : (0 : Int64) ||| sa_s (cX hb) ((cv_l hb za).map (cv_p hb)) = sa_s (cX hb) ((cv_l hb za).map (cv_p hb)) := tb_ext (fun b => by rw [tb_or, tb_0, Bool.false_or])
      rw [z0] at s4
      have sh0 := sa_h_0 (cX hb) ((cv_l hb za).map (cv_p hb))
      have s5 : mi_a h2 87 za.toNat = min 1000 (sa_h (cX hb) ((cv_l hb za).map (cv_p hb))) := by omega
      have a01 := sa_v_01 (cX hb) ((cv_l hb za).map (cv_p hb))
      obtain ⟨A1, A2, A3⟩ := sf_app (cX hb) (as.map (fun a => (cv_l hb a).map (cv_p hb))) [(cv_l hb za).map (cv_p hb)]
      have em : (as ++ [za]).map (fun a => (cv_l hb a).map (cv_p hb)) = as.map (fun a => (cv_l hb a).map (cv_p hb)) ++ [(cv_l hb za).map (cv_p hb)] := by rw [List.map_append]; rfl
      have e66 : mi_a h2 66 za.toNat = mi_a hb 66 za.toNat := me_a (k := 66) s2 hSb rfl rfl
      have nx : ∀ zm, zm = min zh (mi_a h2 87 za.toNat) → me_E (d + 5) 68 28 [some (.inr (.inr 78)), some (.inl zf), some (.inl ((Int32.ofInt ze ||| Int32.ofInt (mi_a h2 84 (Int.toNat za))).toInt)), some (.inr (.inl (zs ||| mx_b h2 85 (Int.toNat za)))), none, some (.inl ((Int32.ofInt zb ||| Int32.ofInt (mi_a h2 86 (Int.toNat za))).toInt)), some (.inl zm), some (.inl (mi_a h2 66 (Int.toNat za))), some (.inl (zn + 1))] [] h2 (ro_Q hb zf) := by
        intro zm ezm
        rw [e66]
        refine ih (as ++ [za]) _ _ zm _ (zn + 1) _ h2 (by omega) (by omega) hal' eas' (mi_inT _) (mi_inT _) ?_ ?_ ?_ (by omega) (fun u hu => ?_) (fun u hu => ?_) s1 s2
        · rw [em, A1, s3, or_01 e01 a01, ← ev]
          by_cases c : ze ≠ 0
          · rw [if_pos c, if_pos (Or.inl c)]
          · rw [if_neg c]
            rw [sf_v_c, sf_v_n]
            by_cases c2 : sa_v (cX hb) ((cv_l hb za).map (cv_p hb)) ≠ 0
            · rw [if_pos c2, if_pos (Or.inr c2)]
            · rw [if_neg c2, if_neg (fun q => q.elim c c2)]
        · rw [em, sb_f_app, b64_or, v1, eb]
          congr 1
          exact (or_0r _).symm
        · rw [em, A3, ← eh, ezm, s5]
          rw [sf_h_c, sf_h_n]
          omega
        · by_cases cm : u.toNat = za.toNat
          · rw [cm]
            unfold at_ok
            rw [ezn]
            exact ⟨s3, s4, s5⟩
          · rcases List.mem_append.mp hu with hu | hu
            · obtain ⟨x1, x2, x3⟩ := v2 u.toNat cm
              obtain ⟨y1, y2, y3⟩ := p1 u hu
              exact ⟨x1.trans y1, x2.trans y2, x3.trans y3⟩
            · rw [List.mem_singleton.mp hu] at cm
              exact absurd rfl cm
        · obtain ⟨x1, x2, x3⟩ := v2 u (fun q => hu za (List.mem_append.mpr (Or.inr (List.mem_singleton.mpr rfl))) q.symm)
          obtain ⟨y1, y2, y3⟩ := p2 u (fun a ha => hu a (List.mem_append.mpr (Or.inl ha)))
          exact ⟨x1.trans y1, x2.trans y2, x3.trans y3⟩
      refine mt_rmC s1 of oe ob oh oa on ?_ ?_ ?_ ?_ ?_ ?_
      · intro k1; exfalso; omega
      · intro k1; exfalso; omega
      · intro k1 k2; exfalso; omega
      · intro k1 k2; exfalso; omega
      · intro k1 k2 k3
        refine ⟨by omega, fun h3 g1 g2 => ?_⟩
        have e0 := me_nil g2
        subst e0
        exact nx _ (by omega)
      · intro k1 k2 k3
        refine ⟨by omega, fun h3 g1 g2 => ?_⟩
        have e0 := me_nil g2
        subst e0
        exact nx _ (by omega)
theorem me_refreshFormB (hSb : ab_Sh sx_sk hb) (hU : cv_u hb U) (h01 : sp_01 70 (cX hb)) (hH : ∀ F : Nat, F < 70 → mi_a hb 82 F ≤ 1000) (f0 : 0 ≤ zf) (f1 : zf < 70) (hal : cv_al hb U (cv_n hb zf.toNat) (mi_a hb 63 zf.toNat)) : me_E (d + 5) 68 0 [some (.inr (.inr 78)), some (.inl zf), none, none, none, none, none, none, none] [] hb (ro_Q hb zf) := by
  refine mt_rmA hSb ⟨by omega, by omega⟩ ?_ ?_ ?_
  · intro c1; exfalso; omega
  · intro c1 c2; exfalso; omega
  · intro c1 c2
    refine ⟨by omega, fun h1 g1 g2 => ?_⟩
    have e0 := me_nil g2
    subst e0
    exact ro_loop hSb hU h01 hH f0 f1 _ [] 0 0 1000 _ 0 _ h1 (by omega) (by decide) hal rfl fm_in0 (mi_inT _) rfl rfl rfl (by decide) (fun a ha => by cases ha) (fun u _ => ⟨rfl, rfl, rfl⟩) hSb ab_Fr.refl
end ROF
/-! the class's Sets: starts, begins and alternatives are worked out -/
theorem at_ok_eq {X Y : sp_X} {hb h : sm_H} {a n : Nat} (e : sp_eq n X Y) (hu : sg_ok n ((cv_l hb a).map (cv_p hb)) ∧ sg_us ((cv_l hb a).map (cv_p hb))) (k : at_ok hb X h a) : at_ok hb Y h a := by
  have e3 := sE_ah (e.h 1000) _ hu.1 hu.2
  have k3 := k.2.2
  refine ⟨k.1.trans (sE_av e.v _ hu.1), k.2.1.trans (tb_ext (fun b => sE_as (e.s b) _ hu.1)), by omega⟩
def at_bt (hb : sm_H) (X Y : sp_X) (h : sm_H) (a : Nat) : Prop := ∃ Z, sp_le 70 X Z ∧ sp_le 70 Z Y ∧ sp_01 70 Z ∧ at_ok hb Z h a
def cv_A (h : sm_H) (F : Nat) : List Int := cv_as h (cv_n h F) (mi_a h 63 F)
def sB_Q (hb : sm_H) (w : Option mi_V) (h' : sm_H) : Prop := ss_Q hb w h' ∧ (∃ j, sp_eq 70 (cX h') (sps_k (GC hb) 70 j) ∧ ∀ F : Nat, F < 70 → ∀ a ∈ cv_A hb F, at_ok hb (sps_k (GC hb) 70 j) h' a.toNat) ∧ ∃ j, sp_eq 70 (cB h') (sps_k (bG (GC hb)) 70 j) ∧ sp_fix 70 (bG (GC hb)) (sps_k (bG (GC hb)) 70 j)
section SBS
variable {d : Nat} {hb : sm_H} {U : Int}
def sB_I (hb : sm_H) (k : Nat) (m : Nat) (h : sm_H) : Prop := ss_I hb k m h ∧ (sp_eq 70 (sps (bG (GC hb)) m (cB h)) (sps_k (bG (GC hb)) 70 (k + 1)) ∧ sp_up 70 (bG (GC hb)) (cB h) ∧ (mi_f h 9999 = 0 → sp_eq 70 (cB h) (sps_k (bG (GC hb)) 70 k))) ∧ ∀ F : Nat, m ≤ F → F < 70 → ∀ a ∈ cv_A hb F, at_bt hb (sps_k (GC hb) 70 k) (sps_k (GC hb) 70 (k + 1)) h a.toNat
theorem sB_step {k m : Nat} {h : sm_H} (hSb : ab_Sh sx_sk hb) (hF : cv_F hb U) (hm : m < 70) (hI : sB_I hb k (m + 1) h) : me_E (d + 5) 68 0 [some (.inr (.inr 78)), some (.inl (m : Int)), none, none, none, none, none, none, none] [] h (fun w h' => w = none ∧ sB_I hb k m h') := by
  obtain ⟨I0, ⟨b1, b2, b3⟩, b4⟩ := hI
  have I0' := I0
  obtain ⟨i1, i2, i3, i4, i5, i6, i7, i8, i9⟩ := I0'
  have e : cv_eq hb h := cv_eq_fr i2 hSb rfl
  have hF' := e.F hF
  have hG := cv_OK hF
  have em : ((m : Int)).toNat = m := rfl
  refine ((ss_step (d := d) hSb hF hm I0).and (me_refreshFormB (d := d) (zf := (m : Int)) i1 hF'.1 i5 i7 (by omega) (by omega) (hF'.2 m hm))).imp (fun w h' hq => ?_)
  obtain ⟨⟨r1, I1⟩, -, -, -, r4, r5, r6, r7⟩ := hq
  rw [em, e.g] at r4
  have eA : cv_as h (cv_n h m) (mi_a h 63 m) = cv_A hb m := by
    unfold cv_A
    rw [e.n, e.as, e.1]
  rw [em, eA] at r6 r7
  have e1 : sps (bG (GC hb)) m (cB h') = sps (bG (GC hb)) (m + 1) (cB h) := by rw [r4]; rfl
  have lN : sp_le 70 (cX h) (sps_k (GC hb) 70 (k + 1)) := sp_le_tr (sps_up hG (m + 1) _ (by omega) i6).1 i3.le
  refine ⟨r1, I1, ⟨by rw [e1]; exact b1, by rw [r4]; exact su_up (bG_OK hG) (by omega) b2, fun q => ?_⟩, fun F f0 f1 a ha => ?_⟩
  · obtain ⟨q1, q2⟩ := r5 q
    rw [q2]
    exact b3 q1
  · by_cases c : ∃ x ∈ cv_A hb m, x.toNat = a.toNat
    · obtain ⟨x, hx, ex⟩ := c
      have k1 := r6 x hx
      rw [ex] at k1
      unfold at_ok at k1
      rw [e.p, e.l] at k1
      exact ⟨cX h, i4, lN, i5, k1⟩
    · have nF : F ≠ m := fun q => c ⟨a, by rw [← q]; exact ha, rfl⟩
      obtain ⟨Z, z1, z2, z3, z4⟩ := b4 F (by omega) f1 a ha
      obtain ⟨x1, x2, x3⟩ := r7 a.toNat (fun x hx q => c ⟨x, hx, q⟩)
      exact ⟨Z, z1, z2, z3, x1.trans z4.1, x2.trans z4.2.1, x3.trans z4.2.2⟩
theorem sB_pass {k : Nat} {zn : Int} {Q : Option mi_V → sm_H → Prop} (hSb : ab_Sh sx_sk hb) (hF : cv_F hb U) (on : mi_in zn) (on1 : mi_in (zn + 1)) (K : ∀ h, sB_I hb k 0 h → me_E (d + 6) 67 7 [some (.inr (.inr 78)), some (.inl (zn + 1)), some (.inl (-1))] [] h Q) : ∀ (m : Nat) (h : sm_H), m ≤ 70 → sB_I hb k m h → me_E (d + 6) 67 28 [some (.inr (.inr 78)), some (.inl zn), some (.inl ((m : Int) - 1))] [] h Q := by
  intro m
  induction m with
  | zero =>
    intro h _ hI
    refine mt_spC hI.1.1 on ⟨by decide, by decide⟩ ?_ (fun q => absurd q (by decide))
    intro c1
    refine ⟨on1, fun h1 g1 g2 => ?_⟩
    have e0 := me_nil g2
    subst e0
    exact K h1 hI
  | succ m ih =>
    intro h hm hI
    have ez : ((m + 1 : Nat) : Int) - 1 = (m : Int) := by omega
    rw [ez]
    refine mt_spC hI.1.1 on ⟨by omega, by omega⟩ (fun q => by exfalso; omega) ?_
    intro c1 h1 g1 g2
    have e0 := me_nil g2
    subst e0
    refine ⟨_, sB_step (d := d) hSb hF (by omega) hI, fun w h2 oww hq => ?_⟩
    obtain ⟨rfl, hI2⟩ := hq
    refine mt_spD hI2.1.1 on ⟨by omega, by omega⟩ ⟨by omega, fun h3 g1 g2 => ?_⟩
    have e0 := me_nil g2
    subst e0
    exact ih h3 (by omega) hI2
def sB_H (hb : sm_H) (k : Nat) (h : sm_H) : Prop := ss_H hb k h ∧ sp_eq 70 (cB h) (sps_k (bG (GC hb)) 70 k) ∧ ∀ j, k = j + 1 → (mi_f h 9999 = 0 → sp_eq 70 (sps_k (bG (GC hb)) 70 (j + 1)) (sps_k (bG (GC hb)) 70 j)) ∧ ∀ F : Nat, F < 70 → ∀ a ∈ cv_A hb F, at_bt hb (sps_k (GC hb) 70 j) (sps_k (GC hb) 70 (j + 1)) h a.toNat
theorem sB_end {k : Nat} {h : sm_H} (hF : cv_F hb U) (hH : sB_H hb k h) (hx : mi_f h 9999 = 0 ∨ 100000 ≤ k) : sB_Q hb none h := by
  obtain ⟨H0, b1, b2⟩ := hH
  refine ⟨ss_end hF H0 hx, ?_⟩
  obtain ⟨i1, i2, i3, i4, i5, i6⟩ := H0
  have hG := cv_OK hF
  cases k with
  | zero =>
    exfalso
    rcases hx with q | q
    · exact i5 rfl q
    · omega
  | succ j =>
    obtain ⟨j1, j2⟩ := i6 j rfl
    obtain ⟨l1, l2⟩ := b2 j rfl
    have E : sp_eq 70 (sps_k (GC hb) 70 (j + 1)) (sps_k (GC hb) 70 j) := by
      rcases hx with q | q
      · exact j1 q
      · exact sps_k_stop hG (by omega)
    have EB : sp_eq 70 (sps_k (bG (GC hb)) 70 (j + 1)) (sps_k (bG (GC hb)) 70 j) := by
      rcases hx with q | q
      · exact l1 q
      · exact sps_k_stop (bG_OK hG) (by omega)
    refine ⟨⟨j, i3.trans E, fun F hF' a ha => ?_⟩, j, b1.trans EB, fun F hF' => sps_fix (bG_OK hG) 70 _ (Nat.le_refl _) (sps_k_01 j) (sps_k_up (bG_OK hG) j) EB F hF'⟩
    obtain ⟨Z, z1, z2, z3, z4⟩ := l2 F hF' a ha
    have a0 := (cv_as_in _ _ (hF.2 F hF') a ha).1.1
    have ez : ((a.toNat : Nat) : Int) = a := Int.toNat_of_nonneg a0
    refine at_ok_eq (sp_anti z3 (sps_k_01 j) (sp_le_tr z2 E.le) z1) ?_ z4
    rw [ez]
    exact hG F hF' _ (List.mem_map.mpr ⟨a, ha, rfl⟩)
theorem sB_loop (hSb : ab_Sh sx_sk hb) (hF : cv_F hb U) : ∀ (N k : Nat) (q2 : Option mi_V) (h : sm_H), 100000 - k < N → k ≤ 100000 → (∀ v, q2 = some v → mi_ok v) → sB_H hb k h → me_E (d + 6) 67 7 [some (.inr (.inr 78)), some (.inl (k : Int)), q2] [] h (sB_Q hb) := by
  have hG := cv_OK hF
  intro N
  induction N with
  | zero => intro k q2 h hN; exfalso; omega
  | succ N ih =>
    intro k q2 h hN hk oq hH
    refine mt_spB hH.1.1 ⟨by omega, by omega⟩ oq ?_ ?_ ?_
    · intro b c1 h1 g1 g2
      have e0 := me_nil g2
      subst e0
      exact sB_end hF hH (Or.inl c1)
    · intro b c1 c2 h1 g1 g2
      have e0 := me_nil g2
      subst e0
      exact sB_end hF hH (Or.inr (by omega))
    · intro b c1 c2 h1 s1 s2 s3
      obtain ⟨⟨i1, i2, i3, i4, i5, i6⟩, w1, w2⟩ := hH
      have eX : cX h1 = cX h := cX_fr s3 i1 rfl
      have eB : cB h1 = cB h := cB_fr s3 i1 rfl
      have I1 : ss_I hb k 70 h1 := by
        refine ⟨s1, i2.trans (s3.wide (fun c hc => ab_swr_ok (by decide) hc)), ?_, ?_, ?_, ?_, fun F hF' => by rw [me_a (k := 82) s3 i1 rfl rfl]; exact i4 F hF', fun _ => by rw [eX]; exact i3, fun F f0 f1 => by omega⟩
        · rw [eX]; exact sps_eq hG 70 _ _ (Nat.le_refl _) i3
        · rw [eX]; exact i3.symm.le
        · rw [eX]
          intro F hF'
          rw [(i3 F hF').1]
          exact sps_k_01 k F hF'
        · rw [eX]
          intro F hF'
          obtain ⟨a1, a2, a3⟩ := i3.fs (hG F hF')
          obtain ⟨b1, b2, b3⟩ := i3 F hF'
          rw [a1, a2, a3, b1, b2, b3]
          exact sps_k_up hG k F hF'
      have J1 : sB_I hb k 70 h1 := by
        refine ⟨I1, ⟨?_, ?_, fun _ => by rw [eB]; exact w1⟩, fun F f0 f1 => by omega⟩
        · rw [eB]; exact sps_eq (bG_OK hG) 70 _ _ (Nat.le_refl _) w1
        · rw [eB]
          intro F hF'
          obtain ⟨a1, a2, a3⟩ := w1.fs (bG_OK hG F hF')
          obtain ⟨b1, b2, b3⟩ := w1 F hF'
          rw [a1, a2, a3, b1, b2, b3]
          exact sps_k_up (bG_OK hG) k F hF'
      refine sB_pass (k := k) hSb hF ⟨by omega, by omega⟩ ⟨by omega, by omega⟩ (fun h2 hI => ?_) 70 h1 (Nat.le_refl _) J1
      obtain ⟨⟨j1, j2, j3, j4, j5, j6, j7, j8, j9⟩, ⟨k1, k2, k3⟩, k4⟩ := hI
      have ek : (k : Int) + 1 = ((k + 1 : Nat) : Int) := by omega
      rw [ek]
      exact ih (k + 1) _ h2 (by omega) (by omega) (me_oi ⟨by decide, by decide⟩) ⟨⟨j1, j2, j3, j7, fun q => by omega, fun j ej => by
        have : j = k := by omega
        subst this
        exact ⟨fun q => j3.symm.trans (j8 q), fun F hF' u hu => j9 F (Nat.zero_le _) hF' u hu⟩⟩, k1, fun j ej => by
        have : j = k := by omega
        subst this
        exact ⟨fun q => k1.symm.trans (k3 q), fun F hF' a ha => k4 F (Nat.zero_le _) hF' a ha⟩⟩
theorem me_spreadStartsB {h : sm_H} (hSb : ab_Sh sx_sk hb) (hF : cv_F hb U) (hS : ab_Sh sx_sk h) (hFr : ab_Fr rm_W hb h) (h0 : sp_eq 70 (cX h) sp_bot) (h0' : ∀ F : Nat, F < 70 → mi_a h 83 F = 0) : me_E (d + 6) 67 0 [some (.inr (.inr 78)), none, none] [] h (sB_Q hb) := by
  refine mt_spA hS (fun h1 s1 s2 s3 => ?_)
  have eX : cX h1 = cX h := cX_fr s3 hS rfl
  have eB : cB h1 = cB h := cB_fr s3 hS rfl
  refine sB_loop hSb hF 100001 0 none h1 (by decide) (by decide) me_on ⟨⟨s1, hFr.trans (s3.wide (fun c hc => ab_swr_ok (by decide) hc)), by rw [eX]; exact h0, fun F hF' => ?_, fun _ => by omega, fun j ej => by omega⟩, ?_, fun j ej => by omega⟩
  · have : mi_a h1 82 F = 1000 := by
      have := (h0 F hF').2.2
      rw [← eX] at this
      exact this
    omega
  · rw [eB]
    intro F hF'
    refine ⟨(h0 F hF').1, ?_, (h0 F hF').2.2⟩
    show b64 (mi_a h 83 F) = 0
    rw [h0' F hF']
    rfl
end SBS
/-! the class's Sets: what may follow a part -/
def pf_v (hb : sm_H) (X : sp_X) (b : Int64) (u : Nat) : Int64 := sk_r X b ((cv_row hb 60 (mi_a hb 71 u)).map (cv_p hb))
def sj_Q (hb : sm_H) (X : sp_X) (h : sm_H) (zx : Int64) (row : List Int) (w : Option mi_V) (h' : sm_H) : Prop := w = none ∧ ab_Sh sx_sk h' ∧ ab_Fr si_W h h' ∧ (∀ u : Nat, (u : Int) ∈ row → mx_b h' 91 u = pf_v hb X zx u) ∧ ∀ u : Nat, (u : Int) ∉ row → mx_b h' 91 u = mx_b h 91 u
section SJI
variable {d : Nat} {hb : sm_H} {U : Int} {X : sp_X}
theorem sj_loop {za : Int} {zx : Int64} (hSb : ab_Sh sx_sk hb) (hU : cv_u hb U) (h01 : sp_01 70 X) (oa : mi_in za) : ∀ (N : Nat) (zp zn : Int) (q6 q7 q8 q9 qa qb : Option mi_V) (h : sm_H), (N : Int) = 60 - zn → 0 ≤ zn → (zp = -1 ∨ (zn ≤ zp ∧ zp < U)) → pt_all hb X h (cv_row hb N zp) → (∀ v, q6 = some v → mi_ok v) → (∀ v, q7 = some v → mi_ok v) → (∀ v, q8 = some v → mi_ok v) → (∀ v, q9 = some v → mi_ok v) → (∀ v, qa = some v → mi_ok v) → (∀ v, qb = some v → mi_ok v) → cv_eq hb h → ab_Sh sx_sk h → me_E (d + 5) 77 16 [some (.inr (.inr 78)), some (.inl za), some (.inr (.inl zx)), none, some (.inl zp), some (.inl zn), q6, q7, q8, q9, qa, qb] [] h (sj_Q hb X h zx (cv_row hb N zp)) := by
  have hU60 := hU.1
  have out : ∀ h : sm_H, ab_Sh sx_sk h → sj_Q hb X h zx [] none h := fun h hS => ⟨rfl, hS, ab_Fr.refl, fun u hu => absurd hu List.not_mem_nil, fun u _ => rfl⟩
  intro N
  induction N with
  | zero =>
    intro zp zn q6 q7 q8 q9 qa qb h hN n0 hp hpt o6 o7 o8 o9 oaa ob e hS
    have op : mi_in zp := ⟨by omega, by omega⟩
    have on : mi_in zn := ⟨by omega, by omega⟩
    refine mt_siB hS oa op on o6 o7 o8 o9 oaa ob ?_ ?_ ?_ ?_ ?_
    · intro c1 h1 g1 g2
      have e0 := me_nil g2
      subst e0
      exact out h1 hS
    · intro c1 c2; exfalso; omega
    · intro c1 c2; exfalso; omega
    · intro c1 c2; exfalso; omega
    · intro c1 c2; exfalso; omega
  | succ N ih =>
    intro zp zn q6 q7 q8 q9 qa qb h hN n0 hp hpt o6 o7 o8 o9 oaa ob e hS
    have op : mi_in zp := ⟨by omega, by omega⟩
    have on : mi_in zn := ⟨by omega, by omega⟩
    refine mt_siB hS oa op on o6 o7 o8 o9 oaa ob ?_ ?_ ?_ ?_ ?_
    · intro c1 h1 g1 g2
      have e0 := me_nil g2
      subst e0
      have er : cv_row hb (N + 1) zp = [] := by rw [cv_row_c, if_pos c1]
      rw [er]
      exact out h1 hS
    · intro c1 c2; exfalso; omega
    · intro c1 c2 c3; exfalso; omega
    · intro c1 c2 c3 c4; exfalso; omega
    · intro c1 c2 c3 c4
      have p01 : 0 ≤ zp ∧ zp < U := by omega
      obtain ⟨w1, w2, w3⟩ := hU.2 zp p01.1 p01.2
      have er : cv_row hb (N + 1) zp = zp :: cv_row hb N (mi_a hb 71 zp.toNat) := by rw [cv_row_c, if_neg c1]
      have ef : cv_row hb N (mi_a hb 71 zp.toNat) = cv_row hb 60 (mi_a hb 71 zp.toNat) := cv_row_fuel hU N 60 _ (by omega) (fun q => by omega)
      rw [er] at hpt ⊢
      have hpr : pt_all hb X h (cv_row hb N (mi_a hb 71 zp.toNat)) := fun u hu => hpt u (List.mem_cons_of_mem _ hu)
      obtain ⟨k1, k2⟩ := hpt zp List.mem_cons_self
      have ez : (zp.toNat : Int) = zp := Int.toNat_of_nonneg p01.1
      rw [ez] at k1 k2
      refine ⟨by omega, fun h1 g1 g2 => ?_⟩
      have e0 := me_nil g2
      subst e0
      have oq : mi_in (mi_a h1 71 zp.toNat) := mi_inT _
      have SF := me_startsFrom (d := d) (zf := mi_a hb 71 zp.toNat) (zx := zx) hSb hU h01 e hS (by omega) (by rw [← ef]; exact hpr)
      rw [← e.2.2.2.2.2.2.1] at SF
      refine ⟨_, SF, fun w h2 oww hq => ?_⟩
      obtain ⟨rfl, rfl⟩ := hq
      rw [e.2.2.2.2.2.2.1, ← ef]
      rw [e.2.2.2.2.2.2.1] at oq
      /- within the part's form -/
      have nx : ∀ (zw : Int64) (h3 : sm_H), zw = sk_i X zx (cv_p hb zp) ((cv_row hb N (mi_a hb 71 zp.toNat)).map (cv_p hb)) → ab_Sh sx_sk h3 → (∀ i, mx_b h3 91 i = if i = zp.toNat then sk_r X zx ((cv_row hb N (mi_a hb 71 zp.toNat)).map (cv_p hb)) else mx_b h2 91 i) → ab_Fr [(11648, 11649)] h2 h3 → ∃ Q1, me_E (d + 4) 71 0 (mi_entry 3 [.inr (.inr 60), .inl zp]) [] h3 Q1 ∧ ∀ w h4, (∀ v, w = some v → mi_ok v) → Q1 w h4 → me_E (d + 5) 77 107 [some (.inr (.inr 78)), some (.inl za), some (.inr (.inl zx)), none, some (.inl zp), some (.inl zn), some (.inl (mi_a hb 71 zp.toNat)), some (.inr (.inl (sk_r X zx ((cv_row hb N (mi_a hb 71 zp.toNat)).map (cv_p hb))))), none, some (.inr (.inl zw)), none, qb] (mi_back w []) h4 (sj_Q hb X h2 zx (zp :: cv_row hb N (mi_a hb 71 zp.toNat))) := by
        intro zw h3 ew s1 s0 s2
        refine ⟨_, me_gformIn (d := d + 3) s1 p01.1 (by omega), fun w h4 oww hq => ?_⟩
        obtain ⟨rfl, rfl⟩ := hq
        have e3 : cv_eq hb h4 := by
          have a := cv_eq_fr s2 hS (by rfl)
          exact ⟨a.1.trans e.1, a.2.1.trans e.2.1, a.2.2.1.trans e.2.2.1, a.2.2.2.1.trans e.2.2.2.1, a.2.2.2.2.1.trans e.2.2.2.2.1, a.2.2.2.2.2.1.trans e.2.2.2.2.2.1, a.2.2.2.2.2.2.1.trans e.2.2.2.2.2.2.1, a.2.2.2.2.2.2.2.trans e.2.2.2.2.2.2.2⟩
        have eg : gf_v h4 zp = (cv_p hb zp).1 := by
          show gf_v h4 zp = gf_v hb zp
          unfold gf_v
          rw [e3.2.2.2.2.1, e3.2.2.2.2.2.1]
        rw [eg]
        have g01 : (cv_p hb zp).1 = -1 ∨ (0 ≤ (cv_p hb zp).1 ∧ (cv_p hb zp).1 < 70) := w2
        have og : mi_in (cv_p hb zp).1 := ⟨by omega, by omega⟩
        have go : ∀ h5, ab_Sh sx_sk h5 → ab_Fr [(9999, 10000), (10368, 10369)] h4 h5 → me_E (d + 5) 77 16 [some (.inr (.inr 78)), some (.inl za), some (.inr (.inl zx)), none, some (.inl (mi_a hb 71 zp.toNat)), some (.inl (zn + 1)), some (.inl (mi_a hb 71 zp.toNat)), some (.inr (.inl (sk_r X zx ((cv_row hb N (mi_a hb 71 zp.toNat)).map (cv_p hb))))), none, some (.inr (.inl zw)), none, some (.inl (cv_p hb zp).1)] [] h5 (sj_Q hb X h2 zx (zp :: cv_row hb N (mi_a hb 71 zp.toNat))) := by
          intro h5 t1 t2
          have F5 : ab_Fr si_W h2 h5 := (s2.wide (fun c hc => ab_swr_ok (by decide) hc)).trans (t2.wide (fun c hc => ab_swr_ok (by decide) hc))
          have a := cv_eq_fr F5 hS (by rfl)
          have e5 : cv_eq hb h5 := ⟨a.1.trans e.1, a.2.1.trans e.2.1, a.2.2.1.trans e.2.2.1, a.2.2.2.1.trans e.2.2.2.1, a.2.2.2.2.1.trans e.2.2.2.2.1, a.2.2.2.2.2.1.trans e.2.2.2.2.2.1, a.2.2.2.2.2.2.1.trans e.2.2.2.2.2.2.1, a.2.2.2.2.2.2.2.trans e.2.2.2.2.2.2.2⟩
          have pt5 : pt_all hb X h5 (cv_row hb N (mi_a hb 71 zp.toNat)) := fun u hu => by
            obtain ⟨x1, x2⟩ := hpr u hu
            exact ⟨(me_a (k := 89) F5 hS rfl rfl).trans x1, (me_b (k := 90) F5 hS rfl rfl).trans x2⟩
          refine (ih (mi_a hb 71 zp.toNat) (zn + 1) _ _ _ _ _ _ h5 (by omega) (by omega) (by omega) pt5 (me_oi oq) (fun v q => by cases q; trivial) me_on (fun v q => by cases q; trivial) me_on (me_oi og) e5 t1).imp (fun w h' hq => ?_)
          obtain ⟨r1, r2, r3, r4, r5⟩ := hq
          have f91 : ∀ u, mx_b h5 91 u = mx_b h4 91 u := fun u => me_b (k := 91) t2 s1 rfl rfl
          refine ⟨r1, r2, F5.trans r3, fun u hu => ?_, fun u hu => ?_⟩
          · by_cases cm : (u : Int) ∈ cv_row hb N (mi_a hb 71 zp.toNat)
            · exact r4 u cm
            · rcases List.mem_cons.mp hu with hu | hu
              · have eu : u = zp.toNat := by omega
                rw [r5 u cm, f91, s0, if_pos eu, eu, ef]
                rfl
              · exact absurd hu cm
          · have nu : u ≠ zp.toNat := fun q => hu (by rw [q, ez]; exact List.mem_cons_self)
            rw [r5 u (fun q => hu (List.mem_cons_of_mem _ q)), f91, s0, if_neg nu]
        refine mt_siD s1 oa op on oq og ob ?_ ?_ ?_ ?_ ?_ ?_ ?_
        · intro q1
          refine ⟨by omega, fun h5 g1 g2 => ?_⟩
          have e0 := me_nil g2
          subst e0
          exact go h5 s1 ab_Fr.refl
        · intro q1 q2; exfalso; omega
        · intro q1 q2; exfalso; omega
        · intro q1 q2 q3; exfalso; omega
        · intro q1 q2 q3; exfalso; omega
        · intro q1 q2 q3 q4
          refine ⟨by omega, fun h5 g1 g2 => ?_⟩
          have e0 := me_nil g2
          subst e0
          exact go h5 s1 ab_Fr.refl
        · intro q1 q2 q3 q4
          exact ⟨by omega, fun h5 t1 t2 t3 t4 => go h5 t1 t4⟩
      have wk : ∀ {A B : Int64}, (cv_p hb zp).2.2.1 = (if mi_a h2 72 zp.toNat = 0 then (0 : Int) else if mi_a h2 72 zp.toNat = 5 then 1 else 2) := by
        intro _ _
        rw [e.2.2.2.2.2.2.2]
        all_goals rfl
      refine mt_siC hS oa op on oq o7 o8 o9 oaa ob ?_ ?_ ?_ ?_
      · intro q1; exfalso; omega
      · intro q1 q2; exfalso; omega
      · intro q1 q2 q3
        refine ⟨by omega, fun h3 s1 s2 s3 => nx _ h3 ?_ s1 s2 s3⟩
        unfold sk_i
        rw [wk (A := 0) (B := 0), if_neg]
        intro q
        by_cases c0 : mi_a h2 72 zp.toNat = 0
        · rw [if_pos c0] at q; exact absurd q (by decide)
        · rw [if_neg c0, if_neg q3] at q; exact absurd q (by decide)
      · intro q1 q2 q3
        refine ⟨by omega, fun h3 s1 s2 s3 => nx _ h3 ?_ s1 s2 s3⟩
        unfold sk_i
        rw [wk (A := 0) (B := 0), if_pos, k2]
        rw [if_neg (by omega), if_pos q3]
theorem me_spreadIntoF {h : sm_H} {za : Int} {zx : Int64} (hSb : ab_Sh sx_sk hb) (hU : cv_u hb U) (h01 : sp_01 70 X) (a0 : 0 ≤ za) (a1 : za < 66) (hp : mi_a hb 65 za.toNat = -1 ∨ (0 ≤ mi_a hb 65 za.toNat ∧ mi_a hb 65 za.toNat < U)) (hpt : pt_all hb X h (cv_l hb za)) (e : cv_eq hb h) (hS : ab_Sh sx_sk h) : me_E (d + 5) 77 0 [some (.inr (.inr 78)), some (.inl za), some (.inr (.inl zx)), none, none, none, none, none, none, none, none, none] [] h (sj_Q hb X h zx (cv_l hb za)) := by
  have oa : mi_in za := ⟨by omega, by omega⟩
  refine mt_siA hS oa ?_ ?_ ?_
  · intro c1; exfalso; omega
  · intro c1 c2; exfalso; omega
  · intro c1 c2
    refine ⟨by omega, fun h1 g1 g2 => ?_⟩
    have e0 := me_nil g2
    subst e0
    rw [e.2.2.1]
    exact sj_loop hSb hU h01 oa 60 _ 0 none none none none none none h1 (by decide) (by decide) hp hpt me_on me_on me_on me_on me_on me_on e hS
end SJI
/-! the class's Sets: spreadFollows, with what follows each part -/
def cv_D (hb : sm_H) : Prop := ∀ F F' : Nat, F < 70 → F' < 70 → ∀ u : Int, cv_of hb F u → cv_of hb F' u → F = F'
def fo_b (hb : sm_H) (X : sp_X) (A B : sp_F) (h : sm_H) (F u : Nat) : Prop := ∃ b, tl (A F) b ∧ tl b (B F) ∧ mx_b h 91 u = pf_v hb X b u
def sF_Q (hb : sm_H) (X : sp_X) (W0 : sp_F) (h : sm_H) (w : Option mi_V) (h' : sm_H) : Prop := w = none ∧ ab_Sh sx_sk h' ∧ ab_Fr si_W h h' ∧ ∃ j, mx_b h' 81 = sk_k X (GC hb) 70 W0 j ∧ sw_sol X 70 (GC hb) (sk_k X (GC hb) 70 W0 j) ∧ ∀ F : Nat, F < 70 → ∀ u : Nat, cv_of hb F u → mx_b h' 91 u = pf_v hb X (sk_k X (GC hb) 70 W0 j F) u
section SVG
variable {d : Nat} {hb h0 : sm_H} {U : Int} {X : sp_X} {W0 : sp_F}
theorem fo_fr {A B : sp_F} {h h' : sm_H} {F u : Nat} (k : fo_b hb X A B h F u) (e : mx_b h' 91 u = mx_b h 91 u) : fo_b hb X A B h' F u := by
  obtain ⟨b, b1, b2, b3⟩ := k
  exact ⟨b, b1, b2, e.trans b3⟩
/-- so far in this turn -/
def sF_I (hb : sm_H) (X : sp_X) (Wk WN : sp_F) (F : Nat) (as : List Int) (h : sm_H) : Prop := sw_le 70 Wk (mx_b h 81) ∧ (∀ F' : Nat, F' < F → ∀ u : Nat, cv_of hb F' u → fo_b hb X Wk WN h F' u) ∧ ∀ a ∈ as, ∀ u : Nat, (u : Int) ∈ cv_l hb a → fo_b hb X Wk WN h F u
theorem sF_alts {zn : Int} {F : Nat} {Q : Option mi_V → sm_H → Prop} {Wk WN : sp_F} (hSb : ab_Sh sx_sk hb) (hF : cv_F hb U) (hD : cv_D hb) (h01 : sp_01 70 X) (hF70 : F < 70) (on : mi_in zn) (K : ∀ h zf za zk, zf = (F : Int) + 1 → mi_in za → mi_in zk → sv_B hb X h0 h → sk_p X (GC hb) (69 - F) (F + 1) (mx_b h 81) = WN → (mi_f h 9999 = 0 → mx_b h 81 = Wk) → sF_I hb X Wk WN F (cv_A hb F) h → me_E (d + 6) 76 27 [some (.inr (.inr 78)), some (.inl zn), some (.inl zf), some (.inl za), some (.inl zk)] [] h Q) : ∀ (m : Nat) (as : List Int) (za zk : Int) (h : sm_H), (m : Int) + zk = cv_n hb F → 0 ≤ zk → mi_in za → cv_al hb U m za → as ++ cv_as hb m za = cv_A hb F → sv_B hb X h0 h → sk_p X (GC hb) (69 - F) (F + 1) (sk_f X F ((cv_as hb m za).map (fun a => (cv_l hb a).map (cv_p hb))) (mx_b h 81)) = WN → (mi_f h 9999 = 0 → mx_b h 81 = Wk) → sF_I hb X Wk WN F as h → me_E (d + 6) 76 48 [some (.inr (.inr 78)), some (.inl zn), some (.inl (F : Int)), some (.inl za), some (.inl zk)] [] h Q := by
  have cn : cv_n hb F ≤ 6 := by unfold cv_n; omega
  have of : mi_in (F : Int) := ⟨by omega, by omega⟩
  intro m
  induction m with
  | zero =>
    intro as za zk h hN k0 oa hal eas hB hW hc hI
    have ok : mi_in zk := ⟨by omega, by omega⟩
    obtain ⟨b1, b2, b3, b4⟩ := id hB
    have e64 : mi_a h 64 ((F : Int)).toNat = mi_a hb 64 F := by rw [b3.2.1]; rfl
    have ea : as = cv_A hb F := by rw [← eas]; exact (List.append_nil as).symm
    rw [ea] at hI
    refine mt_svD b1 on of oa ok ?_ ?_ ?_ ?_ ?_ ?_ ?_ ?_ ?_
    · intro c1; exfalso; omega
    · intro c1; exfalso; omega
    · intro c1; exfalso; omega
    · intro c1 c2; exfalso; omega
    · intro c1 c2; exfalso; omega
    · intro c1 c2; exfalso; omega
    · intro c1 c2 c3
      refine ⟨by omega, fun h1 g1 g2 => ?_⟩
      have e0 := me_nil g2
      subst e0
      exact K h1 _ _ _ rfl oa ok hB hW hc hI
    · intro c1 c2 c3 c4
      refine ⟨by omega, fun h1 g1 g2 => ?_⟩
      have e0 := me_nil g2
      subst e0
      exact K h1 _ _ _ rfl oa ok hB hW hc hI
    · intro c1 c2 c3 c4
      exfalso
      rw [e64] at c3
      unfold cv_n at hN
      omega
  | succ m ih =>
    intro as za zk h hN k0 oa hal eas hB hW hc hI
    have ok : mi_in zk := ⟨by omega, by omega⟩
    obtain ⟨b1, b2, b3, b4⟩ := id hB
    obtain ⟨⟨a0, a1⟩, hp, hal'⟩ := hal
    have e64 : mi_a h 64 ((F : Int)).toNat = mi_a hb 64 F := by rw [b3.2.1]; rfl
    have lt : zk < mi_a hb 64 F := by unfold cv_n at hN; omega
    have eas' : (as ++ [za]) ++ cv_as hb m (mi_a hb 66 za.toNat) = cv_A hb F := by
      rw [← eas, List.append_assoc]
      all_goals rfl
    have hz : za ∈ cv_A hb F := by rw [← eas']; exact List.mem_append.mpr (Or.inl (List.mem_append.mpr (Or.inr (List.mem_singleton.mpr rfl))))
    have hof : ∀ u ∈ cv_l hb za, cv_of hb F u := fun u hu => ⟨za, hz, hu⟩
    refine mt_svD b1 on of oa ok ?_ ?_ ?_ ?_ ?_ ?_ ?_ ?_ ?_
    · intro c1; exfalso; omega
    · intro c1; exfalso; omega
    · intro c1; exfalso; omega
    · intro c1 c2; exfalso; omega
    · intro c1 c2; exfalso; omega
    · intro c1 c2; exfalso; omega
    · intro c1 c2 c3
      exfalso
      rw [e64] at c3
      omega
    · intro c1 c2 c3 c4; exfalso; omega
    · intro c1 c2 c3 c4
      refine ⟨by omega, fun h1 g1 g2 => ?_⟩
      have e0 := me_nil g2
      subst e0
      have hpt : pt_all hb X h1 (cv_l hb za) := fun u hu => by
        have ho := hof u hu
        have u0 := (cv_of_in hF hF70 ho).1
        refine b4 F hF70 u.toNat ?_
        rw [Int.toNat_of_nonneg u0]
        exact ho
      refine ⟨_, (me_spreadInto (d := d) (hb := hb) (X := X) (U := U) (zx := mx_b h1 81 F) hSb hF.1 h01 a0 a1 hp hpt b3 b1).and (me_spreadIntoF (d := d) (hb := hb) (X := X) (U := U) (zx := mx_b h1 81 F) hSb hF.1 h01 a0 a1 hp hpt b3 b1), fun w h2 oww hq => ?_⟩
      obtain ⟨⟨rfl, r2, r3, r4, r5⟩, -, -, -, f1, f2⟩ := hq
      have B2 := sv_B_fr hB r2 r3
      have lo : tl (Wk F) (mx_b h1 81 F) := hI.1 F hF70
      have hi : tl (mx_b h1 81 F) (WN F) := by
        rw [← hW]
        exact tl_tr (sk_f_le (n := 70) _ _ F hF70) (sk_p_le (n := 70) _ _ _ F hF70)
      have I2 : sF_I hb X Wk WN F (as ++ [za]) h2 := by
        refine ⟨fun i hi' => ?_, fun F' hF' u hu => ?_, fun a ha u hu => ?_⟩
        · rw [r4]
          exact tl_tr (hI.1 i hi') (tl_l _ _)
        · refine fo_fr (hI.2.1 F' hF' u hu) (f2 u (fun q => ?_))
          have := hD F F' hF70 (by omega) u (hof u q) hu
          omega
        · by_cases cm : (u : Int) ∈ cv_l hb za
          · exact ⟨_, lo, hi, f1 u cm⟩
          · rcases List.mem_append.mp ha with ha | ha
            · exact fo_fr (hI.2.2 a ha u hu) (f2 u cm)
            · rw [List.mem_singleton.mp ha] at hu
              exact absurd hu cm
      refine mt_svE r2 on of oa ok ?_ ?_ ?_
      · intro q1; exfalso; omega
      · intro q1 q2; exfalso; omega
      · intro q1 q2
        refine ⟨by omega, fun h3 g1 g2 => ?_⟩
        have e0 := me_nil g2
        subst e0
        rw [B2.2.2.1.2.2.2.1]
        refine ih (as ++ [za]) _ (zk + 1) h3 (by omega) (by omega) (mi_inT _) hal' eas' B2 ?_ (fun q => ?_) I2
        · rw [r4]
          exact hW
        · obtain ⟨x1, x2⟩ := r5 q
          exact x2.trans (hc x1)
theorem sF_forms {zn : Int} {Q : Option mi_V → sm_H → Prop} {Wk WN : sp_F} (hSb : ab_Sh sx_sk hb) (hF : cv_F hb U) (hD : cv_D hb) (h01 : sp_01 70 X) (on : mi_in zn) (on1 : mi_in (zn + 1)) (K : ∀ h q2 q3 q4, (∀ v, q2 = some v → mi_ok v) → (∀ v, q3 = some v → mi_ok v) → (∀ v, q4 = some v → mi_ok v) → sv_B hb X h0 h → mx_b h 81 = WN → (mi_f h 9999 = 0 → mx_b h 81 = Wk) → sF_I hb X Wk WN 70 [] h → me_E (d + 6) 76 7 [some (.inr (.inr 78)), some (.inl (zn + 1)), q2, q3, q4] [] h Q) : ∀ (c F : Nat) (q3 q4 : Option mi_V) (h : sm_H), F + c = 70 → (∀ v, q3 = some v → mi_ok v) → (∀ v, q4 = some v → mi_ok v) → sv_B hb X h0 h → sk_p X (GC hb) c F (mx_b h 81) = WN → (mi_f h 9999 = 0 → mx_b h 81 = Wk) → sF_I hb X Wk WN F [] h → me_E (d + 6) 76 27 [some (.inr (.inr 78)), some (.inl zn), some (.inl (F : Int)), q3, q4] [] h Q := by
  intro c
  induction c with
  | zero =>
    intro F q3 q4 h hc o3 o4 hB hW hk hI
    have of : mi_in (F : Int) := ⟨by omega, by omega⟩
    have eF : F = 70 := by omega
    rw [eF] at hI
    refine mt_svC hB.1 on of o3 o4 ?_ ?_ ?_
    · intro c1
      refine ⟨on1, fun h1 g1 g2 => ?_⟩
      have e0 := me_nil g2
      subst e0
      exact K h1 _ _ _ (me_oi of) o3 o4 hB hW hk hI
    · intro c1 c2; exfalso; omega
    · intro c1 c2; exfalso; omega
  | succ c ih =>
    intro F q3 q4 h hc o3 o4 hB hW hk hI
    have of : mi_in (F : Int) := ⟨by omega, by omega⟩
    refine mt_svC hB.1 on of o3 o4 ?_ ?_ ?_
    · intro c1; exfalso; omega
    · intro c1 c2; exfalso; omega
    · intro c1 c2
      refine ⟨by omega, fun h1 g1 g2 => ?_⟩
      have e0 := me_nil g2
      subst e0
      have e63 : mi_a h1 63 ((F : Int)).toNat = mi_a hb 63 F := by rw [hB.2.2.1.1]; rfl
      rw [e63]
      have ec : 69 - F = c := by omega
      refine sF_alts (F := F) (WN := WN) (Wk := Wk) hSb hF hD h01 (by omega) on (fun h2 zf za zk ez oa ok hB2 hW2 hk2 hI2 => ?_) (cv_n hb F) [] _ 0 h1 (by omega) (by decide) (mi_inT _) (hF.2 F (by omega)) rfl hB (by rw [ec]; exact hW) hk hI
      rw [ez]
      rw [ec] at hW2
      refine ih (F + 1) _ _ h2 (by omega) (me_oi oa) (me_oi ok) hB2 hW2 hk2 ⟨hI2.1, fun F' hF' u hu => ?_, fun a ha => by cases ha⟩
      by_cases cF : F' = F
      · rw [cF] at hu ⊢
        obtain ⟨a, ha, hu⟩ := hu
        exact hI2.2.2 a ha u hu
      · exact hI2.2.1 F' (by omega) u hu
theorem fo_end {A B W : sp_F} {h : sm_H} {F u : Nat} (k : fo_b hb X A B h F u) (e1 : A F = W F) (e2 : B F = W F) : mx_b h 91 u = pf_v hb X (W F) u := by
  obtain ⟨b, b1, b2, b3⟩ := k
  rw [e1] at b1
  rw [e2] at b2
  rw [b3, tl_anti b2 b1]
theorem sF_loop (hSb : ab_Sh sx_sk hb) (hF : cv_F hb U) (hD : cv_D hb) (h01 : sp_01 70 X) : ∀ (N k : Nat) (q2 q3 q4 : Option mi_V) (h : sm_H), 100000 - k < N → k ≤ 100000 → (∀ v, q2 = some v → mi_ok v) → (∀ v, q3 = some v → mi_ok v) → (∀ v, q4 = some v → mi_ok v) → sv_B hb X h0 h → mx_b h 81 = sk_k X (GC hb) 70 W0 k → (k = 0 → mi_f h 9999 ≠ 0) → (∀ j, k = j + 1 → (mi_f h 9999 = 0 → sk_k X (GC hb) 70 W0 (j + 1) = sk_k X (GC hb) 70 W0 j) ∧ ∀ F : Nat, F < 70 → ∀ u : Nat, cv_of hb F u → fo_b hb X (sk_k X (GC hb) 70 W0 j) (sk_k X (GC hb) 70 W0 (j + 1)) h F u) → me_E (d + 6) 76 7 [some (.inr (.inr 78)), some (.inl (k : Int)), q2, q3, q4] [] h (sF_Q hb X W0 h0) := by
  intro N
  induction N with
  | zero => intro k q2 q3 q4 h hN; exfalso; omega
  | succ N ih =>
    intro k q2 q3 q4 h hN hk o2 o3 o4 hB hW hc0 hc1
    have on : mi_in (k : Int) := ⟨by omega, by omega⟩
    refine mt_svB hB.1 on o2 o3 o4 ?_ ?_ ?_
    · intro b c1 h1 g1 g2
      have e0 := me_nil g2
      subst e0
      cases k with
      | zero => exact absurd c1 (hc0 rfl)
      | succ j =>
        have E := (hc1 j rfl).1 c1
        exact ⟨rfl, hB.1, hB.2.1, j, hW.trans E, sk_sol (fun i hi => congrFun E i), fun F hF' u hu => fo_end ((hc1 j rfl).2 F hF' u hu) rfl (congrFun E F)⟩
    · intro b c1 c2 h1 g1 g2
      have e0 := me_nil g2
      subst e0
      have hk0 : k = 99999 + 1 := by omega
      exact ⟨rfl, hB.1, hB.2.1, k, hW, sk_sol (sk_k_stop (by omega)), fun F hF' u hu => fo_end ((hc1 99999 hk0).2 F hF' u hu) (by rw [hk0]; exact (sk_k_stop (n := 70) (k := 99999) (by decide) F hF').symm) (by rw [hk0])⟩
    · intro b c1 c2 h1 s1 s2 s3
      have F1 : ab_Fr si_W h h1 := s3.wide (fun c hc => ab_swr_ok (by decide) hc)
      have B1 := sv_B_fr hB s1 F1
      have e81 : mx_b h1 81 = mx_b h 81 := funext fun i => me_b (k := 81) s3 hB.1 rfl rfl
      refine sF_forms (WN := sk_k X (GC hb) 70 W0 (k + 1)) (Wk := sk_k X (GC hb) 70 W0 k) hSb hF hD h01 on ⟨by omega, by omega⟩ (fun h2 q2 q3 q4 o2 o3 o4 hB2 hW2 hk2 hI2 => ?_) 70 0 _ _ h1 rfl o3 o4 B1 ?_ (fun _ => by rw [e81]; exact hW) ⟨fun i hi => by rw [e81, hW]; exact tl_refl _, fun F' hF' => by omega, fun a ha => by cases ha⟩
      · have ek : (k : Int) + 1 = ((k + 1 : Nat) : Int) := by omega
        rw [ek]
        refine ih (k + 1) _ _ _ h2 (by omega) (by omega) o2 o3 o4 hB2 hW2 (fun q => by omega) (fun j ej => ?_)
        have : j = k := by omega
        subst this
        exact ⟨fun q => hW2.symm.trans (hk2 q), fun F hF' u hu => hI2.2.1 F hF' u hu⟩
      · rw [e81, hW]
        rfl
theorem me_spreadFollowsF {h : sm_H} (hSb : ab_Sh sx_sk hb) (hF : cv_F hb U) (hD : cv_D hb) (h01 : sp_01 70 X) (hS : ab_Sh sx_sk h) (e : cv_eq hb h) (hpt : ∀ F : Nat, F < 70 → ∀ u : Nat, cv_of hb F u → pt_ok (cv_p hb) X h u) : me_E (d + 6) 76 0 [some (.inr (.inr 78)), none, none, none, none] [] h (sF_Q hb X (mx_b h 81) h) := by
  refine mt_svA hS (fun h1 s1 s2 s3 => ?_)
  have F1 : ab_Fr si_W h h1 := s3.wide (fun c hc => ab_swr_ok (by decide) hc)
  exact sF_loop hSb hF hD h01 100001 0 none none none h1 (by decide) (by decide) me_on me_on me_on (sv_B_fr ⟨hS, ab_Fr.refl, e, hpt⟩ s1 F1) (funext fun i => me_b (k := 81) s3 hS rfl rfl) (fun _ => by omega) (fun j ej => by omega)
end SVG
/-! the class's Sets: directors -/
def cv_E (hb : sm_H) : Prop := ∀ F F' : Nat, F < 70 → F' < 70 → ∀ a : Int, a ∈ cv_A hb F → a ∈ cv_A hb F' → F = F'
def dr_v (h : sm_H) (F a : Nat) : Int64 := mx_b h 85 a ||| (if mi_a h 84 a = 1 then mx_b h 81 F else 0)
def fd_Q (hb h : sm_H) (w : Option mi_V) (h' : sm_H) : Prop := w = none ∧ ab_Sh sx_sk h' ∧ ab_Fr [(11264, 11265)] h h' ∧ ∀ F : Nat, F < 70 → ∀ a ∈ cv_A hb F, mx_b h' 88 a.toNat = dr_v h F a.toNat
section FDR
variable {d : Nat} {hb h0 : sm_H} {U : Int}
def fd_I (hb h0 : sm_H) (F : Nat) (as : List Int) (h : sm_H) : Prop := ab_Sh sx_sk h ∧ ab_Fr [(11264, 11265)] h0 h ∧ (∀ F' : Nat, F' < F → ∀ a ∈ cv_A hb F', mx_b h 88 a.toNat = dr_v h0 F' a.toNat) ∧ ∀ a ∈ as, mx_b h 88 a.toNat = dr_v h0 F a.toNat
theorem fd_alts {F : Nat} {Q : Option mi_V → sm_H → Prop} (hS0 : ab_Sh sx_sk h0) (e : cv_eq hb h0) (hF : cv_F hb U) (hE : cv_E hb) (hF70 : F < 70) (K : ∀ h za zk q4 q5, mi_in za → mi_in zk → (∀ v, q4 = some v → mi_ok v) → (∀ v, q5 = some v → mi_ok v) → fd_I hb h0 F (cv_A hb F) h → me_E (d + 6) 79 2 [some (.inr (.inr 78)), some (.inl ((F : Int) + 1)), some (.inl za), some (.inl zk), q4, q5] [] h Q) : ∀ (m : Nat) (as : List Int) (za zk : Int) (q4 q5 : Option mi_V) (h : sm_H), (m : Int) + zk = cv_n hb F → 0 ≤ zk → mi_in za → (∀ v, q4 = some v → mi_ok v) → (∀ v, q5 = some v → mi_ok v) → cv_al hb U m za → as ++ cv_as hb m za = cv_A hb F → fd_I hb h0 F as h → me_E (d + 6) 79 22 [some (.inr (.inr 78)), some (.inl (F : Int)), some (.inl za), some (.inl zk), q4, q5] [] h Q := by
  have cn : cv_n hb F ≤ 6 := by unfold cv_n; omega
  have of : mi_in (F : Int) := ⟨by omega, by omega⟩
  have eF : ((F : Int)).toNat = F := rfl
  intro m
  induction m with
  | zero =>
    intro as za zk q4 q5 h hN k0 oa o4 o5 hal eas hI
    have ok : mi_in zk := ⟨by omega, by omega⟩
    obtain ⟨i1, i2, i3, i4⟩ := id hI
    have e64 : mi_a h 64 F = mi_a hb 64 F := by rw [me_a (k := 64) i2 hS0 rfl rfl, e.2.1]
    have ea : as = cv_A hb F := by rw [← eas]; exact (List.append_nil as).symm
    rw [ea] at hI
    have fin : ∀ h1, ab_Fr [] h h1 → me_E (d + 6) 79 2 [some (.inr (.inr 78)), some (.inl ((F : Int) + 1)), some (.inl za), some (.inl zk), q4, q5] [] h1 Q := fun h1 g2 => by
      have e0 := me_nil g2
      subst e0
      exact K h1 za zk q4 q5 oa ok o4 o5 hI
    refine mt_yfdC i1 of oa ok o4 o5 ?_ ?_ ?_ ?_ ?_ ?_ ?_ ?_ ?_ ?_ ?_ ?_ ?_ ?_ ?_ ?_ ?_ ?_
    · intro c1; exfalso; omega
    · intro c1; exfalso; omega
    · intro c1; exfalso; omega
    · intro c1; exfalso; omega
    · intro c1; exfalso; omega
    · intro c1; exfalso; omega
    · intro c1 c2; exfalso; omega
    · intro c1 c2; exfalso; omega
    · intro c1 c2; exfalso; omega
    · intro c1 c2; exfalso; omega
    · intro c1 c2; exfalso; omega
    · intro c1 c2; exfalso; omega
    · intro c1 c2 c3; exact ⟨by omega, fun h1 g1 g2 => fin h1 g2⟩
    · intro c1 c2 c3 c4; exact ⟨by omega, fun h1 g1 g2 => fin h1 g2⟩
    · intro c1 c2 c3 c4; exfalso; rw [eF, e64] at c3; unfold cv_n at hN; omega
    · intro c1 c2 c3 c4; exfalso; rw [eF, e64] at c3; unfold cv_n at hN; omega
    · intro c1 c2 c3 c4; exfalso; rw [eF, e64] at c3; unfold cv_n at hN; omega
    · intro c1 c2 c3 c4; exfalso; rw [eF, e64] at c3; unfold cv_n at hN; omega
  | succ m ih =>
    intro as za zk q4 q5 h hN k0 oa o4 o5 hal eas hI
    have ok : mi_in zk := ⟨by omega, by omega⟩
    obtain ⟨i1, i2, i3, i4⟩ := id hI
    obtain ⟨⟨a0, a1⟩, hp, hal'⟩ := hal
    have e64 : mi_a h 64 F = mi_a hb 64 F := by rw [me_a (k := 64) i2 hS0 rfl rfl, e.2.1]
    have lt : zk < mi_a hb 64 F := by unfold cv_n at hN; omega
    have eas' : (as ++ [za]) ++ cv_as hb m (mi_a hb 66 za.toNat) = cv_A hb F := by
      rw [← eas, List.append_assoc]
      all_goals rfl
    have hz : za ∈ cv_A hb F := by rw [← eas']; exact List.mem_append.mpr (Or.inl (List.mem_append.mpr (Or.inr (List.mem_singleton.mpr rfl))))
    have e84 : mi_a h 84 za.toNat = mi_a h0 84 za.toNat := me_a (k := 84) i2 hS0 rfl rfl
    have e85 : mx_b h 85 za.toNat = mx_b h0 85 za.toNat := me_b (k := 85) i2 hS0 rfl rfl
    have e81 : mx_b h 81 F = mx_b h0 81 F := me_b (k := 81) i2 hS0 rfl rfl
    have e66 : mi_a h 66 za.toNat = mi_a hb 66 za.toNat := by rw [me_a (k := 66) i2 hS0 rfl rfl, e.2.2.2.1]
    have go : ∀ (zb : Int64) h1, ab_Fr [] h h1 → zb = (if mi_a h0 84 za.toNat = 1 then mx_b h0 81 F else 0) → me_E (d + 6) 79 69 [some (.inr (.inr 78)), some (.inl (F : Int)), some (.inl za), some (.inl zk), some (.inr (.inl zb)), none] [] h1 Q := fun zb h1 g2 ez => by
      have e0 := me_nil g2
      subst e0
      refine mt_yfdD i1 of oa ok (fun q => by exfalso; omega) (fun q1 q2 => by exfalso; omega) (fun q1 q2 => ⟨by omega, fun h2 s1 s2 s3 => ?_⟩)
      rw [e66]
      refine ih (as ++ [za]) _ (zk + 1) _ _ h2 (by omega) (by omega) (mi_inT _) (fun v q => by cases q; trivial) me_on hal' eas' ⟨s1, i2.trans s3, fun F' hF' a ha => ?_, fun a ha => ?_⟩
      · have b0 := (cv_as_in _ _ (hF.2 F' (by omega)) a ha).1.1
        have na : a.toNat ≠ za.toNat := fun q => by
          have : a = za := by omega
          rw [this] at ha
          have := hE F F' hF70 (by omega) za hz ha
          omega
        rw [s2, if_neg na]
        exact i3 F' hF' a ha
      · by_cases c : a.toNat = za.toNat
        · rw [s2, if_pos c, c, e85, ez]
          rfl
        · rcases List.mem_append.mp ha with ha | ha
          · rw [s2, if_neg c]
            exact i4 a ha
          · rw [List.mem_singleton.mp ha] at c
            exact absurd rfl c
    refine mt_yfdC i1 of oa ok o4 o5 ?_ ?_ ?_ ?_ ?_ ?_ ?_ ?_ ?_ ?_ ?_ ?_ ?_ ?_ ?_ ?_ ?_ ?_
    · intro c1; exfalso; omega
    · intro c1; exfalso; omega
    · intro c1; exfalso; omega
    · intro c1; exfalso; omega
    · intro c1; exfalso; omega
    · intro c1; exfalso; omega
    · intro c1 c2; exfalso; omega
    · intro c1 c2; exfalso; omega
    · intro c1 c2; exfalso; omega
    · intro c1 c2; exfalso; omega
    · intro c1 c2; exfalso; omega
    · intro c1 c2; exfalso; omega
    · intro c1 c2 c3; exfalso; rw [eF, e64] at c3; omega
    · intro c1 c2 c3 c4; exfalso; omega
    · intro c1 c2 c3 c4 c5; exfalso; omega
    · intro c1 c2 c3 c4 c5 c6; exfalso; omega
    · intro c1 c2 c3 c4 c5 c6 c7
      exact ⟨by omega, fun h1 g1 g2 => go _ h1 g2 (by rw [← e84, if_neg c7]; rfl)⟩
    · intro c1 c2 c3 c4 c5 c6 c7
      exact ⟨by omega, fun h1 g1 g2 => go _ h1 g2 (by rw [← e84, if_pos c7]; exact e81)⟩
theorem fd_forms (hS0 : ab_Sh sx_sk h0) (e : cv_eq hb h0) (hF : cv_F hb U) (hE : cv_E hb) : ∀ (c F : Nat) (q2 q3 q4 q5 : Option mi_V) (h : sm_H), F + c = 70 → (∀ v, q2 = some v → mi_ok v) → (∀ v, q3 = some v → mi_ok v) → (∀ v, q4 = some v → mi_ok v) → (∀ v, q5 = some v → mi_ok v) → fd_I hb h0 F [] h → me_E (d + 6) 79 2 [some (.inr (.inr 78)), some (.inl (F : Int)), q2, q3, q4, q5] [] h (fd_Q hb h0) := by
  intro c
  induction c with
  | zero =>
    intro F q2 q3 q4 q5 h hc o2 o3 o4 o5 hI
    have of : mi_in (F : Int) := ⟨by omega, by omega⟩
    refine mt_yfdB hI.1 of o2 o3 o4 o5 (fun c1 h1 g1 g2 => ?_) (fun c1 c2 => by exfalso; omega) (fun c1 c2 => by exfalso; omega)
    have e0 := me_nil g2
    subst e0
    exact ⟨rfl, hI.1, hI.2.1, fun F' hF' a ha => hI.2.2.1 F' (by omega) a ha⟩
  | succ c ih =>
    intro F q2 q3 q4 q5 h hc o2 o3 o4 o5 hI
    have of : mi_in (F : Int) := ⟨by omega, by omega⟩
    refine mt_yfdB hI.1 of o2 o3 o4 o5 (fun c1 => by exfalso; omega) (fun c1 c2 => by exfalso; omega) (fun c1 c2 => ⟨by omega, fun h1 g1 g2 => ?_⟩)
    have e0 := me_nil g2
    subst e0
    have e63 : mi_a h1 63 ((F : Int)).toNat = mi_a hb 63 F := by
      show mi_a h1 63 F = _
      rw [me_a (k := 63) hI.2.1 hS0 rfl rfl, e.1]
    rw [e63]
    refine fd_alts (F := F) hS0 e hF hE (by omega) (fun h2 za zk q4 q5 oa ok o4 o5 hI2 => ?_) (cv_n hb F) [] _ 0 q4 q5 h1 (by omega) (by decide) (mi_inT _) o4 o5 (hF.2 F (by omega)) rfl hI
    refine ih (F + 1) _ _ q4 q5 h2 (by omega) (me_oi oa) (me_oi ok) o4 o5 ⟨hI2.1, hI2.2.1, fun F' hF' a ha => ?_, fun a ha => by cases ha⟩
    by_cases cF : F' = F
    · rw [cF] at ha ⊢
      exact hI2.2.2.2 a ha
    · exact hI2.2.2.1 F' (by omega) a ha
theorem me_findDirectors (hS0 : ab_Sh sx_sk h0) (e : cv_eq hb h0) (hF : cv_F hb U) (hE : cv_E hb) : me_E (d + 6) 79 0 [some (.inr (.inr 78)), none, none, none, none, none] [] h0 (fd_Q hb h0) := by
  refine mt_yfdA hS0 (fun h1 g1 g2 => ?_)
  have e0 := me_nil g2
  subst e0
  exact fd_forms hS0 e hF hE 70 0 none none none none h1 rfl me_on me_on me_on me_on ⟨hS0, ab_Fr.refl, fun F' hF' => by omega, fun a ha => by cases ha⟩
end FDR
/-! segments of the class: Sets.findTops, groupTops -/
set_option maxRecDepth 20000 in
theorem mp_kftA_0 (h : sm_H) (d : Nat) : mj_path [(80, (4, 0, sb_80))] sx_sk h 6 [8] (d + 2, 80, 0, [some (.inr (.inr 78)), none, none, none], [], [], []) = some ((d + 2, 80, 10, [some (.inr (.inr 78)), some (.inl ((mi_f h 7690) - ((1 : Int)))), none, none], [], [], []), [-2147483648 ≤ (mi_f h 7690) - ((1 : Int)) ∧ (mi_f h 7690) - ((1 : Int)) ≤ 2147483647]) := rfl
theorem mi_tab_kftA_0 : ∀ e ∈ ([(80, (4, 0, sb_80))] : mi_T), sc_P e.1 = some e.2 := mi_tb mi_P80 (mi_tb_e)
set_option maxRecDepth 20000 in
theorem ms_kftA_0 {h : sm_H} {d : Nat} {Q : Option mi_V → sm_H → Prop} (hS : ab_Sh sx_sk h)  (ho : (-2147483648 ≤ (mi_f h 7690) - ((1 : Int)) ∧ (mi_f h 7690) - ((1 : Int)) ≤ 2147483647)) (kon : ∀ h1, me_W [] h h1 → me_E (d + 2) 80 10 [some (.inr (.inr 78)), some (.inl ((mi_f h 7690) - ((1 : Int)))), none, none] [] h1 Q) : me_E (d + 2) 80 0 [some (.inr (.inr 78)), none, none, none] [] h Q := mf_seg (mp_kftA_0 h d ) (mi_tab_kftA_0) hS (mi_okL_c (trivial) (mi_okL_n (mi_okL_n (mi_okL_n (mi_okL_e))))) (mi_okS_e) (mi_al (ho) (mi_al_e)) (fun h1 W _ hst => kon h1 W)
set_option maxRecDepth 20000 in
theorem mt_kftA {h : sm_H} {d : Nat} {Q : Option mi_V → sm_H → Prop} (hS : ab_Sh sx_sk h)  (k0 : ((-2147483648) ≤ mi_f h 7690 ∧ mi_f h 7690 ≤ 2147483647) → ((-2147483648 ≤ (mi_f h 7690) - ((1 : Int)) ∧ (mi_f h 7690) - ((1 : Int)) ≤ 2147483647)) ∧ (∀ h1, ab_Sh sx_sk h1 → ab_Fr [] h h1 → me_E (d + 2) 80 10 [some (.inr (.inr 78)), some (.inl ((mi_f h 7690) - ((1 : Int)))), none, none] [] h1 Q)) : me_E (d + 2) 80 0 [some (.inr (.inr 78)), none, none, none] [] h Q := ms_kftA_0 hS ((k0 (me_fb hS rfl)).1) (fun h1 W => (k0 (me_fb hS rfl)).2 h1 W.1 (W.2.2.2.2.2 _ rfl))
set_option maxRecDepth 20000 in
theorem mp_kftB_0 (h : sm_H) (d : Nat) (zp : Int) (q2 q3 : Option mi_V) : mj_path [(80, (4, 0, sb_80)), (16, (3, 0, sb_16)), (49, (2, 1, sb_49)), (72, (2, 2, sb_72))] sx_sk h 2 [1] (d + 2, 80, 10, [some (.inr (.inr 78)), some (.inl (zp)), q2, q3], [], [], []) = some ((d + 2, 80, 103, [some (.inr (.inr 78)), some (.inl (zp)), q2, q3], [], [], []), [zp < ((0 : Int))]) := rfl
theorem mi_tab_kftB_0 : ∀ e ∈ ([(80, (4, 0, sb_80)), (16, (3, 0, sb_16)), (49, (2, 1, sb_49)), (72, (2, 2, sb_72))] : mi_T), sc_P e.1 = some e.2 := mi_tb mi_P80 (mi_tb mi_P16 (mi_tb mi_P49 (mi_tb mi_P72 (mi_tb_e))))
set_option maxRecDepth 20000 in
theorem ms_kftB_0 {h : sm_H} {d : Nat} {Q : Option mi_V → sm_H → Prop} {zp : Int} {q2 q3 : Option mi_V} (hS : ab_Sh sx_sk h) (ok_zp : mi_in zp) (ok_q2 : ∀ v, q2 = some v → mi_ok v) (ok_q3 : ∀ v, q3 = some v → mi_ok v) (ho : (zp < ((0 : Int)))) (kon : ∀ h1, me_W [] h h1 → Q none h1) : me_E (d + 2) 80 10 [some (.inr (.inr 78)), some (.inl (zp)), q2, q3] [] h Q := mf_seg (mp_kftB_0 h d zp q2 q3) (mi_tab_kftB_0) hS (mi_okL_c (trivial) (mi_okL_c (ok_zp) (mi_okL_o ok_q2 (mi_okL_o ok_q3 (mi_okL_e))))) (mi_okS_e) (mi_al (ho) (mi_al_e)) (fun h1 W _ hst => mf_ret (M := (4, 0, sb_80)) rfl rfl rfl hst (mi_al_e) (kon h1 W))
set_option maxRecDepth 20000 in
theorem mp_kftB_1 (h : sm_H) (d : Nat) (zp : Int) (q2 q3 : Option mi_V) : mj_path [(80, (4, 0, sb_80)), (16, (3, 0, sb_16)), (49, (2, 1, sb_49)), (72, (2, 2, sb_72))] sx_sk h 27 [0, 0, 1, 0, 0, 1] (d + 2, 80, 10, [some (.inr (.inr 78)), some (.inl (zp)), q2, q3], [], [], []) = some ((d + 2, 80, 48, [some (.inr (.inr 78)), some (.inl (zp)), some (.inl ((0 : Int))), some (.inl ((0 : Int)))], [], [], []), [((0 : Int)) ≤ zp, ((0 : Int)) ≤ zp, ((60 : Int)) ≤ zp, ((0 : Int)) ≠ ((1 : Int)), ((0 : Int)) ≠ ((2 : Int)), ((0 : Int)) ≠ ((9 : Int))]) := rfl
theorem mi_tab_kftB_1 : ∀ e ∈ ([(80, (4, 0, sb_80)), (16, (3, 0, sb_16)), (49, (2, 1, sb_49)), (72, (2, 2, sb_72))] : mi_T), sc_P e.1 = some e.2 := mi_tb mi_P80 (mi_tb mi_P16 (mi_tb mi_P49 (mi_tb mi_P72 (mi_tb_e))))
set_option maxRecDepth 20000 in
theorem ms_kftB_1 {h : sm_H} {d : Nat} {Q : Option mi_V → sm_H → Prop} {zp : Int} {q2 q3 : Option mi_V} (hS : ab_Sh sx_sk h) (ok_zp : mi_in zp) (ok_q2 : ∀ v, q2 = some v → mi_ok v) (ok_q3 : ∀ v, q3 = some v → mi_ok v) (ho : (((0 : Int)) ≤ zp) ∧ (((0 : Int)) ≤ zp) ∧ (((60 : Int)) ≤ zp) ∧ (((0 : Int)) ≠ ((1 : Int))) ∧ (((0 : Int)) ≠ ((2 : Int))) ∧ (((0 : Int)) ≠ ((9 : Int)))) (kon : ∀ h1, me_W [] h h1 → me_E (d + 2) 80 48 [some (.inr (.inr 78)), some (.inl (zp)), some (.inl ((0 : Int))), some (.inl ((0 : Int)))] [] h1 Q) : me_E (d + 2) 80 10 [some (.inr (.inr 78)), some (.inl (zp)), q2, q3] [] h Q := mf_seg (mp_kftB_1 h d zp q2 q3) (mi_tab_kftB_1) hS (mi_okL_c (trivial) (mi_okL_c (ok_zp) (mi_okL_o ok_q2 (mi_okL_o ok_q3 (mi_okL_e))))) (mi_okS_e) (mi_al (ho.1) (mi_al (ho.2.1) (mi_al (ho.2.2.1) (mi_al (ho.2.2.2.1) (mi_al (ho.2.2.2.2.1) (mi_al (ho.2.2.2.2.2) (mi_al_e))))))) (fun h1 W _ hst => kon h1 W)
set_option maxRecDepth 20000 in
theorem mp_kftB_2 (h : sm_H) (d : Nat) (zp : Int) (q2 q3 : Option mi_V) : mj_path [(80, (4, 0, sb_80)), (16, (3, 0, sb_16)), (49, (2, 1, sb_49)), (72, (2, 2, sb_72))] sx_sk h 25 [0, 0, 0, 1] (d + 2, 80, 10, [some (.inr (.inr 78)), some (.inl (zp)), q2, q3], [], [], []) = some ((d + 2, 80, 48, [some (.inr (.inr 78)), some (.inl (zp)), some (.inl (mi_a h 68 (Int.toNat zp))), some (.inl ((1 : Int)))], [], [], []), [((0 : Int)) ≤ zp, ((0 : Int)) ≤ zp, zp < ((60 : Int)), 0 ≤ zp ∧ zp < 60, (mi_a h 68 (Int.toNat zp)) = ((1 : Int))]) := rfl
theorem mi_tab_kftB_2 : ∀ e ∈ ([(80, (4, 0, sb_80)), (16, (3, 0, sb_16)), (49, (2, 1, sb_49)), (72, (2, 2, sb_72))] : mi_T), sc_P e.1 = some e.2 := mi_tb mi_P80 (mi_tb mi_P16 (mi_tb mi_P49 (mi_tb mi_P72 (mi_tb_e))))
set_option maxRecDepth 20000 in
theorem ms_kftB_2 {h : sm_H} {d : Nat} {Q : Option mi_V → sm_H → Prop} {zp : Int} {q2 q3 : Option mi_V} (hS : ab_Sh sx_sk h) (ok_zp : mi_in zp) (ok_q2 : ∀ v, q2 = some v → mi_ok v) (ok_q3 : ∀ v, q3 = some v → mi_ok v) (ho : (((0 : Int)) ≤ zp) ∧ (((0 : Int)) ≤ zp) ∧ (zp < ((60 : Int))) ∧ (0 ≤ zp ∧ zp < 60) ∧ ((mi_a h 68 (Int.toNat zp)) = ((1 : Int)))) (kon : ∀ h1, me_W [] h h1 → me_E (d + 2) 80 48 [some (.inr (.inr 78)), some (.inl (zp)), some (.inl (mi_a h 68 (Int.toNat zp))), some (.inl ((1 : Int)))] [] h1 Q) : me_E (d + 2) 80 10 [some (.inr (.inr 78)), some (.inl (zp)), q2, q3] [] h Q := mf_seg (mp_kftB_2 h d zp q2 q3) (mi_tab_kftB_2) hS (mi_okL_c (trivial) (mi_okL_c (ok_zp) (mi_okL_o ok_q2 (mi_okL_o ok_q3 (mi_okL_e))))) (mi_okS_e) (mi_al (ho.1) (mi_al (ho.2.1) (mi_al (ho.2.2.1) (mi_al (ho.2.2.2.1) (mi_al (ho.2.2.2.2) (mi_al_e)))))) (fun h1 W _ hst => kon h1 W)
set_option maxRecDepth 20000 in
theorem mp_kftB_3 (h : sm_H) (d : Nat) (zp : Int) (q2 q3 : Option mi_V) : mj_path [(80, (4, 0, sb_80)), (16, (3, 0, sb_16)), (49, (2, 1, sb_49)), (72, (2, 2, sb_72))] sx_sk h 28 [0, 0, 0, 0, 1] (d + 2, 80, 10, [some (.inr (.inr 78)), some (.inl (zp)), q2, q3], [], [], []) = some ((d + 2, 80, 48, [some (.inr (.inr 78)), some (.inl (zp)), some (.inl (mi_a h 68 (Int.toNat zp))), some (.inl ((1 : Int)))], [], [], []), [((0 : Int)) ≤ zp, ((0 : Int)) ≤ zp, zp < ((60 : Int)), 0 ≤ zp ∧ zp < 60, (mi_a h 68 (Int.toNat zp)) ≠ ((1 : Int)), (mi_a h 68 (Int.toNat zp)) = ((2 : Int))]) := rfl
theorem mi_tab_kftB_3 : ∀ e ∈ ([(80, (4, 0, sb_80)), (16, (3, 0, sb_16)), (49, (2, 1, sb_49)), (72, (2, 2, sb_72))] : mi_T), sc_P e.1 = some e.2 := mi_tb mi_P80 (mi_tb mi_P16 (mi_tb mi_P49 (mi_tb mi_P72 (mi_tb_e))))
set_option maxRecDepth 20000 in
theorem ms_kftB_3 {h : sm_H} {d : Nat} {Q : Option mi_V → sm_H → Prop} {zp : Int} {q2 q3 : Option mi_V} (hS : ab_Sh sx_sk h) (ok_zp : mi_in zp) (ok_q2 : ∀ v, q2 = some v → mi_ok v) (ok_q3 : ∀ v, q3 = some v → mi_ok v) (ho : (((0 : Int)) ≤ zp) ∧ (((0 : Int)) ≤ zp) ∧ (zp < ((60 : Int))) ∧ (0 ≤ zp ∧ zp < 60) ∧ ((mi_a h 68 (Int.toNat zp)) ≠ ((1 : Int))) ∧ ((mi_a h 68 (Int.toNat zp)) = ((2 : Int)))) (kon : ∀ h1, me_W [] h h1 → me_E (d + 2) 80 48 [some (.inr (.inr 78)), some (.inl (zp)), some (.inl (mi_a h 68 (Int.toNat zp))), some (.inl ((1 : Int)))] [] h1 Q) : me_E (d + 2) 80 10 [some (.inr (.inr 78)), some (.inl (zp)), q2, q3] [] h Q := mf_seg (mp_kftB_3 h d zp q2 q3) (mi_tab_kftB_3) hS (mi_okL_c (trivial) (mi_okL_c (ok_zp) (mi_okL_o ok_q2 (mi_okL_o ok_q3 (mi_okL_e))))) (mi_okS_e) (mi_al (ho.1) (mi_al (ho.2.1) (mi_al (ho.2.2.1) (mi_al (ho.2.2.2.1) (mi_al (ho.2.2.2.2.1) (mi_al (ho.2.2.2.2.2) (mi_al_e))))))) (fun h1 W _ hst => kon h1 W)
set_option maxRecDepth 20000 in
theorem mp_kftB_4 (h : sm_H) (d : Nat) (zp : Int) (q2 q3 : Option mi_V) : mj_path [(80, (4, 0, sb_80)), (16, (3, 0, sb_16)), (49, (2, 1, sb_49)), (72, (2, 2, sb_72))] sx_sk h 30 [0, 0, 0, 0, 0, 1] (d + 2, 80, 10, [some (.inr (.inr 78)), some (.inl (zp)), q2, q3], [], [], []) = some ((d + 2, 80, 48, [some (.inr (.inr 78)), some (.inl (zp)), some (.inl (mi_a h 68 (Int.toNat zp))), some (.inl ((0 : Int)))], [], [], []), [((0 : Int)) ≤ zp, ((0 : Int)) ≤ zp, zp < ((60 : Int)), 0 ≤ zp ∧ zp < 60, (mi_a h 68 (Int.toNat zp)) ≠ ((1 : Int)), (mi_a h 68 (Int.toNat zp)) ≠ ((2 : Int)), (mi_a h 68 (Int.toNat zp)) ≠ ((9 : Int))]) := rfl
theorem mi_tab_kftB_4 : ∀ e ∈ ([(80, (4, 0, sb_80)), (16, (3, 0, sb_16)), (49, (2, 1, sb_49)), (72, (2, 2, sb_72))] : mi_T), sc_P e.1 = some e.2 := mi_tb mi_P80 (mi_tb mi_P16 (mi_tb mi_P49 (mi_tb mi_P72 (mi_tb_e))))
set_option maxRecDepth 20000 in
theorem ms_kftB_4 {h : sm_H} {d : Nat} {Q : Option mi_V → sm_H → Prop} {zp : Int} {q2 q3 : Option mi_V} (hS : ab_Sh sx_sk h) (ok_zp : mi_in zp) (ok_q2 : ∀ v, q2 = some v → mi_ok v) (ok_q3 : ∀ v, q3 = some v → mi_ok v) (ho : (((0 : Int)) ≤ zp) ∧ (((0 : Int)) ≤ zp) ∧ (zp < ((60 : Int))) ∧ (0 ≤ zp ∧ zp < 60) ∧ ((mi_a h 68 (Int.toNat zp)) ≠ ((1 : Int))) ∧ ((mi_a h 68 (Int.toNat zp)) ≠ ((2 : Int))) ∧ ((mi_a h 68 (Int.toNat zp)) ≠ ((9 : Int)))) (kon : ∀ h1, me_W [] h h1 → me_E (d + 2) 80 48 [some (.inr (.inr 78)), some (.inl (zp)), some (.inl (mi_a h 68 (Int.toNat zp))), some (.inl ((0 : Int)))] [] h1 Q) : me_E (d + 2) 80 10 [some (.inr (.inr 78)), some (.inl (zp)), q2, q3] [] h Q := mf_seg (mp_kftB_4 h d zp q2 q3) (mi_tab_kftB_4) hS (mi_okL_c (trivial) (mi_okL_c (ok_zp) (mi_okL_o ok_q2 (mi_okL_o ok_q3 (mi_okL_e))))) (mi_okS_e) (mi_al (ho.1) (mi_al (ho.2.1) (mi_al (ho.2.2.1) (mi_al (ho.2.2.2.1) (mi_al (ho.2.2.2.2.1) (mi_al (ho.2.2.2.2.2.1) (mi_al (ho.2.2.2.2.2.2) (mi_al_e)))))))) (fun h1 W _ hst => kon h1 W)
set_option maxRecDepth 20000 in
theorem mp_kftB_5 (h : sm_H) (d : Nat) (zp : Int) (q2 q3 : Option mi_V) : mj_path [(80, (4, 0, sb_80)), (16, (3, 0, sb_16)), (49, (2, 1, sb_49)), (72, (2, 2, sb_72))] sx_sk h 31 [0, 0, 0, 0, 0, 0] (d + 2, 80, 10, [some (.inr (.inr 78)), some (.inl (zp)), q2, q3], [], [], []) = some ((d + 2, 80, 48, [some (.inr (.inr 78)), some (.inl (zp)), some (.inl (mi_a h 68 (Int.toNat zp))), some (.inl ((1 : Int)))], [], [], []), [((0 : Int)) ≤ zp, ((0 : Int)) ≤ zp, zp < ((60 : Int)), 0 ≤ zp ∧ zp < 60, (mi_a h 68 (Int.toNat zp)) ≠ ((1 : Int)), (mi_a h 68 (Int.toNat zp)) ≠ ((2 : Int)), (mi_a h 68 (Int.toNat zp)) = ((9 : Int))]) := rfl
theorem mi_tab_kftB_5 : ∀ e ∈ ([(80, (4, 0, sb_80)), (16, (3, 0, sb_16)), (49, (2, 1, sb_49)), (72, (2, 2, sb_72))] : mi_T), sc_P e.1 = some e.2 := mi_tb mi_P80 (mi_tb mi_P16 (mi_tb mi_P49 (mi_tb mi_P72 (mi_tb_e))))
set_option maxRecDepth 20000 in
theorem ms_kftB_5 {h : sm_H} {d : Nat} {Q : Option mi_V → sm_H → Prop} {zp : Int} {q2 q3 : Option mi_V} (hS : ab_Sh sx_sk h) (ok_zp : mi_in zp) (ok_q2 : ∀ v, q2 = some v → mi_ok v) (ok_q3 : ∀ v, q3 = some v → mi_ok v) (ho : (((0 : Int)) ≤ zp) ∧ (((0 : Int)) ≤ zp) ∧ (zp < ((60 : Int))) ∧ (0 ≤ zp ∧ zp < 60) ∧ ((mi_a h 68 (Int.toNat zp)) ≠ ((1 : Int))) ∧ ((mi_a h 68 (Int.toNat zp)) ≠ ((2 : Int))) ∧ ((mi_a h 68 (Int.toNat zp)) = ((9 : Int)))) (kon : ∀ h1, me_W [] h h1 → me_E (d + 2) 80 48 [some (.inr (.inr 78)), some (.inl (zp)), some (.inl (mi_a h 68 (Int.toNat zp))), some (.inl ((1 : Int)))] [] h1 Q) : me_E (d + 2) 80 10 [some (.inr (.inr 78)), some (.inl (zp)), q2, q3] [] h Q := mf_seg (mp_kftB_5 h d zp q2 q3) (mi_tab_kftB_5) hS (mi_okL_c (trivial) (mi_okL_c (ok_zp) (mi_okL_o ok_q2 (mi_okL_o ok_q3 (mi_okL_e))))) (mi_okS_e) (mi_al (ho.1) (mi_al (ho.2.1) (mi_al (ho.2.2.1) (mi_al (ho.2.2.2.1) (mi_al (ho.2.2.2.2.1) (mi_al (ho.2.2.2.2.2.1) (mi_al (ho.2.2.2.2.2.2) (mi_al_e)))))))) (fun h1 W _ hst => kon h1 W)
set_option maxRecDepth 20000 in
theorem mt_kftB {h : sm_H} {d : Nat} {Q : Option mi_V → sm_H → Prop} {zp : Int} {q2 q3 : Option mi_V} (hS : ab_Sh sx_sk h) (ok_zp : mi_in zp) (ok_q2 : ∀ v, q2 = some v → mi_ok v) (ok_q3 : ∀ v, q3 = some v → mi_ok v) (k0 : (zp < ((0 : Int))) → (∀ h1, ab_Sh sx_sk h1 → ab_Fr [] h h1 → Q none h1)) (k1 : (((0 : Int)) ≤ zp) → (((60 : Int)) ≤ zp) → (∀ h1, ab_Sh sx_sk h1 → ab_Fr [] h h1 → me_E (d + 2) 80 48 [some (.inr (.inr 78)), some (.inl (zp)), some (.inl ((0 : Int))), some (.inl ((0 : Int)))] [] h1 Q)) (k2 : (((0 : Int)) ≤ zp) → (zp < ((60 : Int))) → ((mi_a h 68 (Int.toNat zp)) = ((1 : Int))) → ((0 ≤ zp ∧ zp < 60)) ∧ (∀ h1, ab_Sh sx_sk h1 → ab_Fr [] h h1 → me_E (d + 2) 80 48 [some (.inr (.inr 78)), some (.inl (zp)), some (.inl (mi_a h 68 (Int.toNat zp))), some (.inl ((1 : Int)))] [] h1 Q)) (k3 : (((0 : Int)) ≤ zp) → (zp < ((60 : Int))) → ((mi_a h 68 (Int.toNat zp)) ≠ ((1 : Int))) → ((mi_a h 68 (Int.toNat zp)) = ((2 : Int))) → ((0 ≤ zp ∧ zp < 60)) ∧ (∀ h1, ab_Sh sx_sk h1 → ab_Fr [] h h1 → me_E (d + 2) 80 48 [some (.inr (.inr 78)), some (.inl (zp)), some (.inl (mi_a h 68 (Int.toNat zp))), some (.inl ((1 : Int)))] [] h1 Q)) (k4 : (((0 : Int)) ≤ zp) → (zp < ((60 : Int))) → ((mi_a h 68 (Int.toNat zp)) ≠ ((1 : Int))) → ((mi_a h 68 (Int.toNat zp)) ≠ ((2 : Int))) → ((mi_a h 68 (Int.toNat zp)) ≠ ((9 : Int))) → ((0 ≤ zp ∧ zp < 60)) ∧ (∀ h1, ab_Sh sx_sk h1 → ab_Fr [] h h1 → me_E (d + 2) 80 48 [some (.inr (.inr 78)), some (.inl (zp)), some (.inl (mi_a h 68 (Int.toNat zp))), some (.inl ((0 : Int)))] [] h1 Q)) (k5 : (((0 : Int)) ≤ zp) → (zp < ((60 : Int))) → ((mi_a h 68 (Int.toNat zp)) ≠ ((1 : Int))) → ((mi_a h 68 (Int.toNat zp)) ≠ ((2 : Int))) → ((mi_a h 68 (Int.toNat zp)) = ((9 : Int))) → ((0 ≤ zp ∧ zp < 60)) ∧ (∀ h1, ab_Sh sx_sk h1 → ab_Fr [] h h1 → me_E (d + 2) 80 48 [some (.inr (.inr 78)), some (.inl (zp)), some (.inl (mi_a h 68 (Int.toNat zp))), some (.inl ((1 : Int)))] [] h1 Q)) : me_E (d + 2) 80 10 [some (.inr (.inr 78)), some (.inl (zp)), q2, q3] [] h Q := Or.elim (mi_em .lt (zp) (((0 : Int)))) (fun c0 => ms_kftB_0 hS ok_zp ok_q2 ok_q3 (c0) (fun h1 W => (k0 c0) h1 W.1 (W.2.2.2.2.2 _ rfl))) (fun c0 => Or.elim (mi_em .ge (zp) (((60 : Int)))) (fun c1 => ms_kftB_1 hS ok_zp ok_q2 ok_q3 ⟨c0, c0, c1, (by decide), (by decide), (by decide)⟩ (fun h1 W => (k1 c0 c1) h1 W.1 (W.2.2.2.2.2 _ rfl))) (fun c1 => Or.elim (mi_em .eq ((mi_a h 68 (Int.toNat zp))) (((1 : Int)))) (fun c2 => ms_kftB_2 hS ok_zp ok_q2 ok_q3 ⟨c0, c0, c1, (k2 c0 c1 c2).1, c2⟩ (fun h1 W => (k2 c0 c1 c2).2 h1 W.1 (W.2.2.2.2.2 _ rfl))) (fun c2 => Or.elim (mi_em .eq ((mi_a h 68 (Int.toNat zp))) (((2 : Int)))) (fun c3 => ms_kftB_3 hS ok_zp ok_q2 ok_q3 ⟨c0, c0, c1, (k3 c0 c1 c2 c3).1, c2, c3⟩ (fun h1 W => (k3 c0 c1 c2 c3).2 h1 W.1 (W.2.2.2.2.2 _ rfl))) (fun c3 => Or.elim (mi_em .ne ((mi_a h 68 (Int.toNat zp))) (((9 : Int)))) (fun c4 => ms_kftB_4 hS ok_zp ok_q2 ok_q3 ⟨c0, c0, c1, (k4 c0 c1 c2 c3 c4).1, c2, c3, c4⟩ (fun h1 W => (k4 c0 c1 c2 c3 c4).2 h1 W.1 (W.2.2.2.2.2 _ rfl))) (fun c4 => ms_kftB_5 hS ok_zp ok_q2 ok_q3 ⟨c0, c0, c1, (k5 c0 c1 c2 c3 c4).1, c2, c3, c4⟩ (fun h1 W => (k5 c0 c1 c2 c3 c4).2 h1 W.1 (W.2.2.2.2.2 _ rfl)))))))
set_option maxRecDepth 20000 in
theorem mp_kftC_0 (h : sm_H) (d : Nat) (zp zs zt : Int) : mj_path [(80, (4, 0, sb_80)), (16, (3, 0, sb_16)), (49, (2, 1, sb_49)), (72, (2, 2, sb_72))] sx_sk h 3 [1] (d + 2, 80, 48, [some (.inr (.inr 78)), some (.inl (zp)), some (.inl (zs)), some (.inl (zt))], [], [], []) = some ((d + 2, 80, 70, [some (.inr (.inr 78)), some (.inl (zp)), some (.inl (zs)), some (.inl (zt))], [], [], []), [zs ≠ ((10 : Int))]) := rfl
theorem mi_tab_kftC_0 : ∀ e ∈ ([(80, (4, 0, sb_80)), (16, (3, 0, sb_16)), (49, (2, 1, sb_49)), (72, (2, 2, sb_72))] : mi_T), sc_P e.1 = some e.2 := mi_tb mi_P80 (mi_tb mi_P16 (mi_tb mi_P49 (mi_tb mi_P72 (mi_tb_e))))
set_option maxRecDepth 20000 in
theorem ms_kftC_0 {h : sm_H} {d : Nat} {Q : Option mi_V → sm_H → Prop} {zp zs zt : Int} (hS : ab_Sh sx_sk h) (ok_zp : mi_in zp) (ok_zs : mi_in zs) (ok_zt : mi_in zt) (ho : (zs ≠ ((10 : Int)))) (kon : ∀ h1, me_W [] h h1 → me_E (d + 2) 80 70 [some (.inr (.inr 78)), some (.inl (zp)), some (.inl (zs)), some (.inl (zt))] [] h1 Q) : me_E (d + 2) 80 48 [some (.inr (.inr 78)), some (.inl (zp)), some (.inl (zs)), some (.inl (zt))] [] h Q := mf_seg (mp_kftC_0 h d zp zs zt) (mi_tab_kftC_0) hS (mi_okL_c (trivial) (mi_okL_c (ok_zp) (mi_okL_c (ok_zs) (mi_okL_c (ok_zt) (mi_okL_e))))) (mi_okS_e) (mi_al (ho) (mi_al_e)) (fun h1 W _ hst => kon h1 W)
set_option maxRecDepth 20000 in
theorem mp_kftC_1 (h : sm_H) (d : Nat) (zp zs zt : Int) : mj_path [(80, (4, 0, sb_80)), (16, (3, 0, sb_16)), (49, (2, 1, sb_49)), (72, (2, 2, sb_72))] sx_sk h 13 [0, 1] (d + 2, 80, 48, [some (.inr (.inr 78)), some (.inl (zp)), some (.inl (zs)), some (.inl (zt))], [], [], []) = some ((d + 2, 80, 66, [some (.inr (.inr 78)), some (.inl (zp)), some (.inl (zs)), some (.inl (zt))], [.inl ((0 : Int)), .inr (.inr 78)], [], []), [zs = ((10 : Int)), zp < ((0 : Int))]) := rfl
theorem mi_tab_kftC_1 : ∀ e ∈ ([(80, (4, 0, sb_80)), (16, (3, 0, sb_16)), (49, (2, 1, sb_49)), (72, (2, 2, sb_72))] : mi_T), sc_P e.1 = some e.2 := mi_tb mi_P80 (mi_tb mi_P16 (mi_tb mi_P49 (mi_tb mi_P72 (mi_tb_e))))
set_option maxRecDepth 20000 in
theorem ms_kftC_1 {h : sm_H} {d : Nat} {Q : Option mi_V → sm_H → Prop} {zp zs zt : Int} (hS : ab_Sh sx_sk h) (ok_zp : mi_in zp) (ok_zs : mi_in zs) (ok_zt : mi_in zt) (ho : (zs = ((10 : Int))) ∧ (zp < ((0 : Int)))) (kon : ∀ h1, me_W [] h h1 → ∃ Q1, me_E (d + 1) 81 0 (mi_entry 5 [.inr (.inr 78), .inl ((0 : Int))]) [] h1 Q1 ∧ ∀ w h2, (∀ x, w = some x → mi_ok x) → Q1 w h2 → me_E (d + 2) 80 69 [some (.inr (.inr 78)), some (.inl (zp)), some (.inl (zs)), some (.inl (zt))] (mi_back w []) h2 Q) : me_E (d + 2) 80 48 [some (.inr (.inr 78)), some (.inl (zp)), some (.inl (zs)), some (.inl (zt))] [] h Q := mf_seg (mp_kftC_1 h d zp zs zt) (mi_tab_kftC_1) hS (mi_okL_c (trivial) (mi_okL_c (ok_zp) (mi_okL_c (ok_zs) (mi_okL_c (ok_zt) (mi_okL_e))))) (mi_okS_e) (mi_al (ho.1) (mi_al (ho.2) (mi_al_e))) (fun h1 W _ hst => let ⟨_, k1, k2⟩ := kon h1 W; mf_call (M := (4, 0, sb_80)) (M' := (5, 1, sb_81)) rfl rfl rfl rfl (Nat.le_of_ble_eq_true rfl) (Nat.le_of_ble_eq_true rfl) W.1 k1 k2)
set_option maxRecDepth 20000 in
theorem mp_kftC_2 (h : sm_H) (d : Nat) (zp zs zt : Int) : mj_path [(80, (4, 0, sb_80)), (16, (3, 0, sb_16)), (49, (2, 1, sb_49)), (72, (2, 2, sb_72))] sx_sk h 17 [0, 0, 1] (d + 2, 80, 48, [some (.inr (.inr 78)), some (.inl (zp)), some (.inl (zs)), some (.inl (zt))], [], [], []) = some ((d + 2, 80, 66, [some (.inr (.inr 78)), some (.inl (zp)), some (.inl (zs)), some (.inl (zt))], [.inl ((0 : Int)), .inr (.inr 78)], [], []), [zs = ((10 : Int)), ((0 : Int)) ≤ zp, ((60 : Int)) ≤ zp]) := rfl
theorem mi_tab_kftC_2 : ∀ e ∈ ([(80, (4, 0, sb_80)), (16, (3, 0, sb_16)), (49, (2, 1, sb_49)), (72, (2, 2, sb_72))] : mi_T), sc_P e.1 = some e.2 := mi_tb mi_P80 (mi_tb mi_P16 (mi_tb mi_P49 (mi_tb mi_P72 (mi_tb_e))))
set_option maxRecDepth 20000 in
theorem ms_kftC_2 {h : sm_H} {d : Nat} {Q : Option mi_V → sm_H → Prop} {zp zs zt : Int} (hS : ab_Sh sx_sk h) (ok_zp : mi_in zp) (ok_zs : mi_in zs) (ok_zt : mi_in zt) (ho : (zs = ((10 : Int))) ∧ (((0 : Int)) ≤ zp) ∧ (((60 : Int)) ≤ zp)) (kon : ∀ h1, me_W [] h h1 → ∃ Q1, me_E (d + 1) 81 0 (mi_entry 5 [.inr (.inr 78), .inl ((0 : Int))]) [] h1 Q1 ∧ ∀ w h2, (∀ x, w = some x → mi_ok x) → Q1 w h2 → me_E (d + 2) 80 69 [some (.inr (.inr 78)), some (.inl (zp)), some (.inl (zs)), some (.inl (zt))] (mi_back w []) h2 Q) : me_E (d + 2) 80 48 [some (.inr (.inr 78)), some (.inl (zp)), some (.inl (zs)), some (.inl (zt))] [] h Q := mf_seg (mp_kftC_2 h d zp zs zt) (mi_tab_kftC_2) hS (mi_okL_c (trivial) (mi_okL_c (ok_zp) (mi_okL_c (ok_zs) (mi_okL_c (ok_zt) (mi_okL_e))))) (mi_okS_e) (mi_al (ho.1) (mi_al (ho.2.1) (mi_al (ho.2.2) (mi_al_e)))) (fun h1 W _ hst => let ⟨_, k1, k2⟩ := kon h1 W; mf_call (M := (4, 0, sb_80)) (M' := (5, 1, sb_81)) rfl rfl rfl rfl (Nat.le_of_ble_eq_true rfl) (Nat.le_of_ble_eq_true rfl) W.1 k1 k2)
set_option maxRecDepth 20000 in
theorem mp_kftC_3 (h : sm_H) (d : Nat) (zp zs zt : Int) : mj_path [(80, (4, 0, sb_80)), (16, (3, 0, sb_16)), (49, (2, 1, sb_49)), (72, (2, 2, sb_72))] sx_sk h 20 [0, 0, 0] (d + 2, 80, 48, [some (.inr (.inr 78)), some (.inl (zp)), some (.inl (zs)), some (.inl (zt))], [], [], []) = some ((d + 2, 80, 66, [some (.inr (.inr 78)), some (.inl (zp)), some (.inl (zs)), some (.inl (zt))], [.inl (mi_a h 69 (Int.toNat zp)), .inr (.inr 78)], [], []), [zs = ((10 : Int)), ((0 : Int)) ≤ zp, zp < ((60 : Int)), 0 ≤ zp ∧ zp < 60]) := rfl
theorem mi_tab_kftC_3 : ∀ e ∈ ([(80, (4, 0, sb_80)), (16, (3, 0, sb_16)), (49, (2, 1, sb_49)), (72, (2, 2, sb_72))] : mi_T), sc_P e.1 = some e.2 := mi_tb mi_P80 (mi_tb mi_P16 (mi_tb mi_P49 (mi_tb mi_P72 (mi_tb_e))))
set_option maxRecDepth 20000 in
theorem ms_kftC_3 {h : sm_H} {d : Nat} {Q : Option mi_V → sm_H → Prop} {zp zs zt : Int} (hS : ab_Sh sx_sk h) (ok_zp : mi_in zp) (ok_zs : mi_in zs) (ok_zt : mi_in zt) (ho : (zs = ((10 : Int))) ∧ (((0 : Int)) ≤ zp) ∧ (zp < ((60 : Int))) ∧ (0 ≤ zp ∧ zp < 60)) (kon : ∀ h1, me_W [] h h1 → ∃ Q1, me_E (d + 1) 81 0 (mi_entry 5 [.inr (.inr 78), .inl (mi_a h 69 (Int.toNat zp))]) [] h1 Q1 ∧ ∀ w h2, (∀ x, w = some x → mi_ok x) → Q1 w h2 → me_E (d + 2) 80 69 [some (.inr (.inr 78)), some (.inl (zp)), some (.inl (zs)), some (.inl (zt))] (mi_back w []) h2 Q) : me_E (d + 2) 80 48 [some (.inr (.inr 78)), some (.inl (zp)), some (.inl (zs)), some (.inl (zt))] [] h Q := mf_seg (mp_kftC_3 h d zp zs zt) (mi_tab_kftC_3) hS (mi_okL_c (trivial) (mi_okL_c (ok_zp) (mi_okL_c (ok_zs) (mi_okL_c (ok_zt) (mi_okL_e))))) (mi_okS_e) (mi_al (ho.1) (mi_al (ho.2.1) (mi_al (ho.2.2.1) (mi_al (ho.2.2.2) (mi_al_e))))) (fun h1 W _ hst => let ⟨_, k1, k2⟩ := kon h1 W; mf_call (M := (4, 0, sb_80)) (M' := (5, 1, sb_81)) rfl rfl rfl rfl (Nat.le_of_ble_eq_true rfl) (Nat.le_of_ble_eq_true rfl) W.1 k1 k2)
set_option maxRecDepth 20000 in
theorem mt_kftC {h : sm_H} {d : Nat} {Q : Option mi_V → sm_H → Prop} {zp zs zt : Int} (hS : ab_Sh sx_sk h) (ok_zp : mi_in zp) (ok_zs : mi_in zs) (ok_zt : mi_in zt) (k0 : (zs ≠ ((10 : Int))) → (∀ h1, ab_Sh sx_sk h1 → ab_Fr [] h h1 → me_E (d + 2) 80 70 [some (.inr (.inr 78)), some (.inl (zp)), some (.inl (zs)), some (.inl (zt))] [] h1 Q)) (k1 : (zs = ((10 : Int))) → (zp < ((0 : Int))) → (∀ h1, ab_Sh sx_sk h1 → ab_Fr [] h h1 → ∃ Q1, me_E (d + 1) 81 0 (mi_entry 5 [.inr (.inr 78), .inl ((0 : Int))]) [] h1 Q1 ∧ ∀ w h2, (∀ x, w = some x → mi_ok x) → Q1 w h2 → me_E (d + 2) 80 69 [some (.inr (.inr 78)), some (.inl (zp)), some (.inl (zs)), some (.inl (zt))] (mi_back w []) h2 Q)) (k2 : (zs = ((10 : Int))) → (((0 : Int)) ≤ zp) → (((60 : Int)) ≤ zp) → (∀ h1, ab_Sh sx_sk h1 → ab_Fr [] h h1 → ∃ Q1, me_E (d + 1) 81 0 (mi_entry 5 [.inr (.inr 78), .inl ((0 : Int))]) [] h1 Q1 ∧ ∀ w h2, (∀ x, w = some x → mi_ok x) → Q1 w h2 → me_E (d + 2) 80 69 [some (.inr (.inr 78)), some (.inl (zp)), some (.inl (zs)), some (.inl (zt))] (mi_back w []) h2 Q)) (k3 : (zs = ((10 : Int))) → (((0 : Int)) ≤ zp) → (zp < ((60 : Int))) → ((0 ≤ zp ∧ zp < 60)) ∧ (∀ h1, ab_Sh sx_sk h1 → ab_Fr [] h h1 → ∃ Q1, me_E (d + 1) 81 0 (mi_entry 5 [.inr (.inr 78), .inl (mi_a h 69 (Int.toNat zp))]) [] h1 Q1 ∧ ∀ w h2, (∀ x, w = some x → mi_ok x) → Q1 w h2 → me_E (d + 2) 80 69 [some (.inr (.inr 78)), some (.inl (zp)), some (.inl (zs)), some (.inl (zt))] (mi_back w []) h2 Q)) : me_E (d + 2) 80 48 [some (.inr (.inr 78)), some (.inl (zp)), some (.inl (zs)), some (.inl (zt))] [] h Q := Or.elim (mi_em .ne (zs) (((10 : Int)))) (fun c0 => ms_kftC_0 hS ok_zp ok_zs ok_zt (c0) (fun h1 W => (k0 c0) h1 W.1 (W.2.2.2.2.2 _ rfl))) (fun c0 => Or.elim (mi_em .lt (zp) (((0 : Int)))) (fun c1 => ms_kftC_1 hS ok_zp ok_zs ok_zt ⟨c0, c1⟩ (fun h1 W => (k1 c0 c1) h1 W.1 (W.2.2.2.2.2 _ rfl))) (fun c1 => Or.elim (mi_em .ge (zp) (((60 : Int)))) (fun c2 => ms_kftC_2 hS ok_zp ok_zs ok_zt ⟨c0, c1, c2⟩ (fun h1 W => (k2 c0 c1 c2) h1 W.1 (W.2.2.2.2.2 _ rfl))) (fun c2 => ms_kftC_3 hS ok_zp ok_zs ok_zt ⟨c0, c1, c2, (k3 c0 c1 c2).1⟩ (fun h1 W => (k3 c0 c1 c2).2 h1 W.1 (W.2.2.2.2.2 _ rfl)))))
set_option maxRecDepth 20000 in
theorem mp_kftD_0 (h : sm_H) (d : Nat) (zp zs zt zz : Int) : mj_path [(80, (4, 0, sb_80))] sx_sk h 1 [] (d + 2, 80, 69, [some (.inr (.inr 78)), some (.inl (zp)), some (.inl (zs)), some (.inl (zt))], [.inl (zz)], [], []) = some ((d + 2, 80, 70, [some (.inr (.inr 78)), some (.inl (zp)), some (.inl (zs)), some (.inl (zz))], [], [], []), []) := rfl
theorem mi_tab_kftD_0 : ∀ e ∈ ([(80, (4, 0, sb_80))] : mi_T), sc_P e.1 = some e.2 := mi_tb mi_P80 (mi_tb_e)
set_option maxRecDepth 20000 in
theorem ms_kftD_0 {h : sm_H} {d : Nat} {Q : Option mi_V → sm_H → Prop} {zp zs zt zz : Int} (hS : ab_Sh sx_sk h) (ok_zp : mi_in zp) (ok_zs : mi_in zs) (ok_zt : mi_in zt) (ok_zz : mi_in zz) (kon : ∀ h1, me_W [] h h1 → me_E (d + 2) 80 70 [some (.inr (.inr 78)), some (.inl (zp)), some (.inl (zs)), some (.inl (zz))] [] h1 Q) : me_E (d + 2) 80 69 [some (.inr (.inr 78)), some (.inl (zp)), some (.inl (zs)), some (.inl (zt))] [.inl (zz)] h Q := mf_seg (mp_kftD_0 h d zp zs zt zz) (mi_tab_kftD_0) hS (mi_okL_c (trivial) (mi_okL_c (ok_zp) (mi_okL_c (ok_zs) (mi_okL_c (ok_zt) (mi_okL_e))))) (mi_okS_cons (ok_zz) (mi_okS_e)) (mi_al_e) (fun h1 W _ hst => kon h1 W)
set_option maxRecDepth 20000 in
theorem mt_kftD {h : sm_H} {d : Nat} {Q : Option mi_V → sm_H → Prop} {zp zs zt zz : Int} (hS : ab_Sh sx_sk h) (ok_zp : mi_in zp) (ok_zs : mi_in zs) (ok_zt : mi_in zt) (ok_zz : mi_in zz) (k0 : (∀ h1, ab_Sh sx_sk h1 → ab_Fr [] h h1 → me_E (d + 2) 80 70 [some (.inr (.inr 78)), some (.inl (zp)), some (.inl (zs)), some (.inl (zz))] [] h1 Q)) : me_E (d + 2) 80 69 [some (.inr (.inr 78)), some (.inl (zp)), some (.inl (zs)), some (.inl (zt))] [.inl (zz)] h Q := ms_kftD_0 hS ok_zp ok_zs ok_zt ok_zz (fun h1 W => (k0) h1 W.1 (W.2.2.2.2.2 _ rfl))
set_option maxRecDepth 20000 in
theorem mp_kftE_0 (h : sm_H) (d : Nat) (zp zs zt : Int) : mj_path [(80, (4, 0, sb_80)), (16, (3, 0, sb_16)), (49, (2, 1, sb_49)), (72, (2, 2, sb_72))] sx_sk h 21 [1, 0, 1] (d + 2, 80, 70, [some (.inr (.inr 78)), some (.inl (zp)), some (.inl (zs)), some (.inl (zt))], [], [], []) = some ((d + 2, 80, 10, [some (.inr (.inr 78)), some (.inl (zp + (-1))), some (.inl (zs)), some (.inl (zt))], [], [], []), [zp < ((0 : Int)), ((0 : Int)) = ((0 : Int)), zp < ((0 : Int)), -2147483648 ≤ zp + (-1) ∧ zp + (-1) ≤ 2147483647]) := rfl
theorem mi_tab_kftE_0 : ∀ e ∈ ([(80, (4, 0, sb_80)), (16, (3, 0, sb_16)), (49, (2, 1, sb_49)), (72, (2, 2, sb_72))] : mi_T), sc_P e.1 = some e.2 := mi_tb mi_P80 (mi_tb mi_P16 (mi_tb mi_P49 (mi_tb mi_P72 (mi_tb_e))))
set_option maxRecDepth 20000 in
theorem ms_kftE_0 {h : sm_H} {d : Nat} {Q : Option mi_V → sm_H → Prop} {zp zs zt : Int} (hS : ab_Sh sx_sk h) (ok_zp : mi_in zp) (ok_zs : mi_in zs) (ok_zt : mi_in zt) (ho : (zp < ((0 : Int))) ∧ (((0 : Int)) = ((0 : Int))) ∧ (zp < ((0 : Int))) ∧ (-2147483648 ≤ zp + (-1) ∧ zp + (-1) ≤ 2147483647)) (kon : ∀ h1, me_W [] h h1 → me_E (d + 2) 80 10 [some (.inr (.inr 78)), some (.inl (zp + (-1))), some (.inl (zs)), some (.inl (zt))] [] h1 Q) : me_E (d + 2) 80 70 [some (.inr (.inr 78)), some (.inl (zp)), some (.inl (zs)), some (.inl (zt))] [] h Q := mf_seg (mp_kftE_0 h d zp zs zt) (mi_tab_kftE_0) hS (mi_okL_c (trivial) (mi_okL_c (ok_zp) (mi_okL_c (ok_zs) (mi_okL_c (ok_zt) (mi_okL_e))))) (mi_okS_e) (mi_al (ho.1) (mi_al (ho.2.1) (mi_al (ho.2.2.1) (mi_al (ho.2.2.2) (mi_al_e))))) (fun h1 W _ hst => kon h1 W)
set_option maxRecDepth 20000 in
theorem mp_kftE_1 (h : sm_H) (d : Nat) (zp zs zt : Int) : mj_path [(80, (4, 0, sb_80)), (16, (3, 0, sb_16)), (49, (2, 1, sb_49)), (72, (2, 2, sb_72))] sx_sk h 29 [0, 1, 0, 0, 1] (d + 2, 80, 70, [some (.inr (.inr 78)), some (.inl (zp)), some (.inl (zs)), some (.inl (zt))], [], [], []) = some ((d + 2, 80, 10, [some (.inr (.inr 78)), some (.inl (zp + (-1))), some (.inl (zs)), some (.inl (zt))], [], [], []), [((0 : Int)) ≤ zp, ((60 : Int)) ≤ zp, ((0 : Int)) = ((0 : Int)), ((0 : Int)) ≤ zp, ((60 : Int)) ≤ zp, -2147483648 ≤ zp + (-1) ∧ zp + (-1) ≤ 2147483647]) := rfl
theorem mi_tab_kftE_1 : ∀ e ∈ ([(80, (4, 0, sb_80)), (16, (3, 0, sb_16)), (49, (2, 1, sb_49)), (72, (2, 2, sb_72))] : mi_T), sc_P e.1 = some e.2 := mi_tb mi_P80 (mi_tb mi_P16 (mi_tb mi_P49 (mi_tb mi_P72 (mi_tb_e))))
set_option maxRecDepth 20000 in
theorem ms_kftE_1 {h : sm_H} {d : Nat} {Q : Option mi_V → sm_H → Prop} {zp zs zt : Int} (hS : ab_Sh sx_sk h) (ok_zp : mi_in zp) (ok_zs : mi_in zs) (ok_zt : mi_in zt) (ho : (((0 : Int)) ≤ zp) ∧ (((60 : Int)) ≤ zp) ∧ (((0 : Int)) = ((0 : Int))) ∧ (((0 : Int)) ≤ zp) ∧ (((60 : Int)) ≤ zp) ∧ (-2147483648 ≤ zp + (-1) ∧ zp + (-1) ≤ 2147483647)) (kon : ∀ h1, me_W [] h h1 → me_E (d + 2) 80 10 [some (.inr (.inr 78)), some (.inl (zp + (-1))), some (.inl (zs)), some (.inl (zt))] [] h1 Q) : me_E (d + 2) 80 70 [some (.inr (.inr 78)), some (.inl (zp)), some (.inl (zs)), some (.inl (zt))] [] h Q := mf_seg (mp_kftE_1 h d zp zs zt) (mi_tab_kftE_1) hS (mi_okL_c (trivial) (mi_okL_c (ok_zp) (mi_okL_c (ok_zs) (mi_okL_c (ok_zt) (mi_okL_e))))) (mi_okS_e) (mi_al (ho.1) (mi_al (ho.2.1) (mi_al (ho.2.2.1) (mi_al (ho.2.2.2.1) (mi_al (ho.2.2.2.2.1) (mi_al (ho.2.2.2.2.2) (mi_al_e))))))) (fun h1 W _ hst => kon h1 W)
set_option maxRecDepth 20000 in
theorem mp_kftE_2 (h : sm_H) (d : Nat) (zp zs zt : Int) : mj_path [(80, (4, 0, sb_80)), (16, (3, 0, sb_16)), (49, (2, 1, sb_49)), (72, (2, 2, sb_72))] sx_sk h 35 [0, 0, 1, 0, 0] (d + 2, 80, 70, [some (.inr (.inr 78)), some (.inl (zp)), some (.inl (zs)), some (.inl (zt))], [], [], []) = some ((d + 2, 80, 10, [some (.inr (.inr 78)), some (.inl (zp + (-1))), some (.inl (zs)), some (.inl (zt))], [], [.inr (.inr (.inl (92, Int.toNat zp, (1 : Int))))], []), [((0 : Int)) ≤ zp, zp < ((60 : Int)), 0 ≤ zp ∧ zp < 60, (mi_a h 72 (Int.toNat zp)) ≠ ((0 : Int)), ((0 : Int)) ≤ zp, zp < ((60 : Int)), 0 ≤ zp ∧ zp < 60, -2147483648 ≤ zp + (-1) ∧ zp + (-1) ≤ 2147483647]) := rfl
theorem mi_tab_kftE_2 : ∀ e ∈ ([(80, (4, 0, sb_80)), (16, (3, 0, sb_16)), (49, (2, 1, sb_49)), (72, (2, 2, sb_72))] : mi_T), sc_P e.1 = some e.2 := mi_tb mi_P80 (mi_tb mi_P16 (mi_tb mi_P49 (mi_tb mi_P72 (mi_tb_e))))
set_option maxRecDepth 20000 in
theorem ms_kftE_2 {h : sm_H} {d : Nat} {Q : Option mi_V → sm_H → Prop} {zp zs zt : Int} (hS : ab_Sh sx_sk h) (ok_zp : mi_in zp) (ok_zs : mi_in zs) (ok_zt : mi_in zt) (ho : (((0 : Int)) ≤ zp) ∧ (zp < ((60 : Int))) ∧ (0 ≤ zp ∧ zp < 60) ∧ ((mi_a h 72 (Int.toNat zp)) ≠ ((0 : Int))) ∧ (((0 : Int)) ≤ zp) ∧ (zp < ((60 : Int))) ∧ (0 ≤ zp ∧ zp < 60) ∧ (-2147483648 ≤ zp + (-1) ∧ zp + (-1) ≤ 2147483647)) (kon : ∀ h1, me_W [.inr (.inr (.inl (92, Int.toNat zp, (1 : Int))))] h h1 → me_E (d + 2) 80 10 [some (.inr (.inr 78)), some (.inl (zp + (-1))), some (.inl (zs)), some (.inl (zt))] [] h1 Q) : me_E (d + 2) 80 70 [some (.inr (.inr 78)), some (.inl (zp)), some (.inl (zs)), some (.inl (zt))] [] h Q := mf_seg (mp_kftE_2 h d zp zs zt) (mi_tab_kftE_2) hS (mi_okL_c (trivial) (mi_okL_c (ok_zp) (mi_okL_c (ok_zs) (mi_okL_c (ok_zt) (mi_okL_e))))) (mi_okS_e) (mi_al (ho.1) (mi_al (ho.2.1) (mi_al (ho.2.2.1) (mi_al (ho.2.2.2.1) (mi_al (ho.2.2.2.2.1) (mi_al (ho.2.2.2.2.2.1) (mi_al (ho.2.2.2.2.2.2.1) (mi_al (ho.2.2.2.2.2.2.2) (mi_al_e))))))))) (fun h1 W _ hst => kon h1 W)
set_option maxRecDepth 20000 in
theorem mp_kftE_3 (h : sm_H) (d : Nat) (zp zs zt : Int) : mj_path [(80, (4, 0, sb_80)), (16, (3, 0, sb_16)), (49, (2, 1, sb_49)), (72, (2, 2, sb_72))] sx_sk h 36 [0, 0, 0, 0, 0] (d + 2, 80, 70, [some (.inr (.inr 78)), some (.inl (zp)), some (.inl (zs)), some (.inl (zt))], [], [], []) = some ((d + 2, 80, 10, [some (.inr (.inr 78)), some (.inl (zp + (-1))), some (.inl (zs)), some (.inl (zt))], [], [.inr (.inr (.inl (92, Int.toNat zp, zt)))], []), [((0 : Int)) ≤ zp, zp < ((60 : Int)), 0 ≤ zp ∧ zp < 60, (mi_a h 72 (Int.toNat zp)) = ((0 : Int)), ((0 : Int)) ≤ zp, zp < ((60 : Int)), 0 ≤ zp ∧ zp < 60, -2147483648 ≤ zp + (-1) ∧ zp + (-1) ≤ 2147483647]) := rfl
theorem mi_tab_kftE_3 : ∀ e ∈ ([(80, (4, 0, sb_80)), (16, (3, 0, sb_16)), (49, (2, 1, sb_49)), (72, (2, 2, sb_72))] : mi_T), sc_P e.1 = some e.2 := mi_tb mi_P80 (mi_tb mi_P16 (mi_tb mi_P49 (mi_tb mi_P72 (mi_tb_e))))
set_option maxRecDepth 20000 in
theorem ms_kftE_3 {h : sm_H} {d : Nat} {Q : Option mi_V → sm_H → Prop} {zp zs zt : Int} (hS : ab_Sh sx_sk h) (ok_zp : mi_in zp) (ok_zs : mi_in zs) (ok_zt : mi_in zt) (ho : (((0 : Int)) ≤ zp) ∧ (zp < ((60 : Int))) ∧ (0 ≤ zp ∧ zp < 60) ∧ ((mi_a h 72 (Int.toNat zp)) = ((0 : Int))) ∧ (((0 : Int)) ≤ zp) ∧ (zp < ((60 : Int))) ∧ (0 ≤ zp ∧ zp < 60) ∧ (-2147483648 ≤ zp + (-1) ∧ zp + (-1) ≤ 2147483647)) (kon : ∀ h1, me_W [.inr (.inr (.inl (92, Int.toNat zp, zt)))] h h1 → me_E (d + 2) 80 10 [some (.inr (.inr 78)), some (.inl (zp + (-1))), some (.inl (zs)), some (.inl (zt))] [] h1 Q) : me_E (d + 2) 80 70 [some (.inr (.inr 78)), some (.inl (zp)), some (.inl (zs)), some (.inl (zt))] [] h Q := mf_seg (mp_kftE_3 h d zp zs zt) (mi_tab_kftE_3) hS (mi_okL_c (trivial) (mi_okL_c (ok_zp) (mi_okL_c (ok_zs) (mi_okL_c (ok_zt) (mi_okL_e))))) (mi_okS_e) (mi_al (ho.1) (mi_al (ho.2.1) (mi_al (ho.2.2.1) (mi_al (ho.2.2.2.1) (mi_al (ho.2.2.2.2.1) (mi_al (ho.2.2.2.2.2.1) (mi_al (ho.2.2.2.2.2.2.1) (mi_al (ho.2.2.2.2.2.2.2) (mi_al_e))))))))) (fun h1 W _ hst => kon h1 W)
set_option maxRecDepth 20000 in
theorem mt_kftE {h : sm_H} {d : Nat} {Q : Option mi_V → sm_H → Prop} {zp zs zt : Int} (hS : ab_Sh sx_sk h) (ok_zp : mi_in zp) (ok_zs : mi_in zs) (ok_zt : mi_in zt) (k0 : (zp < ((0 : Int))) → ((-2147483648 ≤ zp + (-1) ∧ zp + (-1) ≤ 2147483647)) ∧ (∀ h1, ab_Sh sx_sk h1 → ab_Fr [] h h1 → me_E (d + 2) 80 10 [some (.inr (.inr 78)), some (.inl (zp + (-1))), some (.inl (zs)), some (.inl (zt))] [] h1 Q)) (k1 : (((0 : Int)) ≤ zp) → (((60 : Int)) ≤ zp) → ((-2147483648 ≤ zp + (-1) ∧ zp + (-1) ≤ 2147483647)) ∧ (∀ h1, ab_Sh sx_sk h1 → ab_Fr [] h h1 → me_E (d + 2) 80 10 [some (.inr (.inr 78)), some (.inl (zp + (-1))), some (.inl (zs)), some (.inl (zt))] [] h1 Q)) (k2 : (((0 : Int)) ≤ zp) → (zp < ((60 : Int))) → ((mi_a h 72 (Int.toNat zp)) ≠ ((0 : Int))) → ((0 ≤ zp ∧ zp < 60) ∧ (-2147483648 ≤ zp + (-1) ∧ zp + (-1) ≤ 2147483647)) ∧ (∀ h1, ab_Sh sx_sk h1 → (∀ i, mi_a h1 92 i = if i = Int.toNat zp then (1 : Int) else (mi_a h 92 i)) → ab_Fr [(11776, 11777)] h h1 → me_E (d + 2) 80 10 [some (.inr (.inr 78)), some (.inl (zp + (-1))), some (.inl (zs)), some (.inl (zt))] [] h1 Q)) (k3 : (((0 : Int)) ≤ zp) → (zp < ((60 : Int))) → ((mi_a h 72 (Int.toNat zp)) = ((0 : Int))) → ((0 ≤ zp ∧ zp < 60) ∧ (-2147483648 ≤ zp + (-1) ∧ zp + (-1) ≤ 2147483647)) ∧ (∀ h1, ab_Sh sx_sk h1 → (∀ i, mi_a h1 92 i = if i = Int.toNat zp then zt else (mi_a h 92 i)) → ab_Fr [(11776, 11777)] h h1 → me_E (d + 2) 80 10 [some (.inr (.inr 78)), some (.inl (zp + (-1))), some (.inl (zs)), some (.inl (zt))] [] h1 Q)) : me_E (d + 2) 80 70 [some (.inr (.inr 78)), some (.inl (zp)), some (.inl (zs)), some (.inl (zt))] [] h Q := Or.elim (mi_em .lt (zp) (((0 : Int)))) (fun c0 => ms_kftE_0 hS ok_zp ok_zs ok_zt ⟨c0, (by decide), c0, (k0 c0).1⟩ (fun h1 W => (k0 c0).2 h1 W.1 (W.2.2.2.2.2 _ rfl))) (fun c0 => Or.elim (mi_em .ge (zp) (((60 : Int)))) (fun c1 => ms_kftE_1 hS ok_zp ok_zs ok_zt ⟨c0, c1, (by decide), c0, c1, (k1 c0 c1).1⟩ (fun h1 W => (k1 c0 c1).2 h1 W.1 (W.2.2.2.2.2 _ rfl))) (fun c1 => Or.elim (mi_em .ne ((mi_a h 72 (Int.toNat zp))) (((0 : Int)))) (fun c2 => ms_kftE_2 hS ok_zp ok_zs ok_zt ⟨c0, c1, (k2 c0 c1 c2).1.1, c2, c0, c1, (k2 c0 c1 c2).1.1, (k2 c0 c1 c2).1.2⟩ (fun h1 W => (k2 c0 c1 c2).2 h1 W.1 (fun i => W.2.2.1 92 i) (W.2.2.2.2.2 _ rfl))) (fun c2 => ms_kftE_3 hS ok_zp ok_zs ok_zt ⟨c0, c1, (k3 c0 c1 c2).1.1, c2, c0, c1, (k3 c0 c1 c2).1.1, (k3 c0 c1 c2).1.2⟩ (fun h1 W => (k3 c0 c1 c2).2 h1 W.1 (fun i => W.2.2.1 92 i) (W.2.2.2.2.2 _ rfl)))))
set_option maxRecDepth 20000 in
theorem mp_kgtA_0 (h : sm_H) (d : Nat) (zf : Int) : mj_path [(81, (5, 1, sb_81)), (16, (3, 0, sb_16)), (49, (2, 1, sb_49)), (72, (2, 2, sb_72))] sx_sk h 40 [1, 1, 1, 0, 0] (d + 1, 81, 0, [some (.inr (.inr 78)), some (.inl (zf)), none, none, none], [], [], []) = some ((d + 1, 81, 44, [some (.inr (.inr 78)), some (.inl (zf)), some (.inl ((0 : Int))), some (.inl (mi_a h 65 (Int.toNat ((0 : Int))))), some (.inl ((0 : Int)))], [], [], []), [zf < ((0 : Int)), ((0 : Int)) ≤ ((1 : Int)), zf < ((0 : Int)), ((0 : Int)) ≤ ((0 : Int)), ((0 : Int)) < ((66 : Int)), 0 ≤ ((0 : Int)) ∧ ((0 : Int)) < 66]) := rfl
theorem mi_tab_kgtA_0 : ∀ e ∈ ([(81, (5, 1, sb_81)), (16, (3, 0, sb_16)), (49, (2, 1, sb_49)), (72, (2, 2, sb_72))] : mi_T), sc_P e.1 = some e.2 := mi_tb mi_P81 (mi_tb mi_P16 (mi_tb mi_P49 (mi_tb mi_P72 (mi_tb_e))))
set_option maxRecDepth 20000 in
theorem ms_kgtA_0 {h : sm_H} {d : Nat} {Q : Option mi_V → sm_H → Prop} {zf : Int} (hS : ab_Sh sx_sk h) (ok_zf : mi_in zf) (ho : (zf < ((0 : Int))) ∧ (((0 : Int)) ≤ ((1 : Int))) ∧ (zf < ((0 : Int))) ∧ (((0 : Int)) ≤ ((0 : Int))) ∧ (((0 : Int)) < ((66 : Int))) ∧ (0 ≤ ((0 : Int)) ∧ ((0 : Int)) < 66)) (kon : ∀ h1, me_W [] h h1 → me_E (d + 1) 81 44 [some (.inr (.inr 78)), some (.inl (zf)), some (.inl ((0 : Int))), some (.inl (mi_a h 65 (Int.toNat ((0 : Int))))), some (.inl ((0 : Int)))] [] h1 Q) : me_E (d + 1) 81 0 [some (.inr (.inr 78)), some (.inl (zf)), none, none, none] [] h Q := mf_seg (mp_kgtA_0 h d zf) (mi_tab_kgtA_0) hS (mi_okL_c (trivial) (mi_okL_c (ok_zf) (mi_okL_n (mi_okL_n (mi_okL_n (mi_okL_e)))))) (mi_okS_e) (mi_al (ho.1) (mi_al (ho.2.1) (mi_al (ho.2.2.1) (mi_al (ho.2.2.2.1) (mi_al (ho.2.2.2.2.1) (mi_al (ho.2.2.2.2.2) (mi_al_e))))))) (fun h1 W _ hst => kon h1 W)
set_option maxRecDepth 20000 in
theorem mp_kgtA_1 (h : sm_H) (d : Nat) (zf : Int) : mj_path [(81, (5, 1, sb_81)), (16, (3, 0, sb_16)), (49, (2, 1, sb_49)), (72, (2, 2, sb_72))] sx_sk h 48 [0, 1, 1, 0, 1, 0, 0] (d + 1, 81, 0, [some (.inr (.inr 78)), some (.inl (zf)), none, none, none], [], [], []) = some ((d + 1, 81, 44, [some (.inr (.inr 78)), some (.inl (zf)), some (.inl ((0 : Int))), some (.inl (mi_a h 65 (Int.toNat ((0 : Int))))), some (.inl ((0 : Int)))], [], [], []), [((0 : Int)) ≤ zf, ((70 : Int)) ≤ zf, ((0 : Int)) ≤ ((1 : Int)), ((0 : Int)) ≤ zf, ((70 : Int)) ≤ zf, ((0 : Int)) ≤ ((0 : Int)), ((0 : Int)) < ((66 : Int)), 0 ≤ ((0 : Int)) ∧ ((0 : Int)) < 66]) := rfl
theorem mi_tab_kgtA_1 : ∀ e ∈ ([(81, (5, 1, sb_81)), (16, (3, 0, sb_16)), (49, (2, 1, sb_49)), (72, (2, 2, sb_72))] : mi_T), sc_P e.1 = some e.2 := mi_tb mi_P81 (mi_tb mi_P16 (mi_tb mi_P49 (mi_tb mi_P72 (mi_tb_e))))
set_option maxRecDepth 20000 in
theorem ms_kgtA_1 {h : sm_H} {d : Nat} {Q : Option mi_V → sm_H → Prop} {zf : Int} (hS : ab_Sh sx_sk h) (ok_zf : mi_in zf) (ho : (((0 : Int)) ≤ zf) ∧ (((70 : Int)) ≤ zf) ∧ (((0 : Int)) ≤ ((1 : Int))) ∧ (((0 : Int)) ≤ zf) ∧ (((70 : Int)) ≤ zf) ∧ (((0 : Int)) ≤ ((0 : Int))) ∧ (((0 : Int)) < ((66 : Int))) ∧ (0 ≤ ((0 : Int)) ∧ ((0 : Int)) < 66)) (kon : ∀ h1, me_W [] h h1 → me_E (d + 1) 81 44 [some (.inr (.inr 78)), some (.inl (zf)), some (.inl ((0 : Int))), some (.inl (mi_a h 65 (Int.toNat ((0 : Int))))), some (.inl ((0 : Int)))] [] h1 Q) : me_E (d + 1) 81 0 [some (.inr (.inr 78)), some (.inl (zf)), none, none, none] [] h Q := mf_seg (mp_kgtA_1 h d zf) (mi_tab_kgtA_1) hS (mi_okL_c (trivial) (mi_okL_c (ok_zf) (mi_okL_n (mi_okL_n (mi_okL_n (mi_okL_e)))))) (mi_okS_e) (mi_al (ho.1) (mi_al (ho.2.1) (mi_al (ho.2.2.1) (mi_al (ho.2.2.2.1) (mi_al (ho.2.2.2.2.1) (mi_al (ho.2.2.2.2.2.1) (mi_al (ho.2.2.2.2.2.2.1) (mi_al (ho.2.2.2.2.2.2.2) (mi_al_e))))))))) (fun h1 W _ hst => kon h1 W)
set_option maxRecDepth 20000 in
theorem mp_kgtA_2 (h : sm_H) (d : Nat) (zf : Int) : mj_path [(81, (5, 1, sb_81)), (16, (3, 0, sb_16)), (49, (2, 1, sb_49)), (72, (2, 2, sb_72))] sx_sk h 47 [0, 0, 1, 0, 0, 1] (d + 1, 81, 0, [some (.inr (.inr 78)), some (.inl (zf)), none, none, none], [], [], []) = some ((d + 1, 81, 44, [some (.inr (.inr 78)), some (.inl (zf)), some (.inl ((0 : Int))), some (.inl ((0 : Int))), some (.inl ((0 : Int)))], [], [], []), [((0 : Int)) ≤ zf, zf < ((70 : Int)), 0 ≤ zf ∧ zf < 70, (mi_a h 64 (Int.toNat zf)) ≤ ((1 : Int)), ((0 : Int)) ≤ zf, zf < ((70 : Int)), 0 ≤ zf ∧ zf < 70, (mi_a h 63 (Int.toNat zf)) < ((0 : Int))]) := rfl
theorem mi_tab_kgtA_2 : ∀ e ∈ ([(81, (5, 1, sb_81)), (16, (3, 0, sb_16)), (49, (2, 1, sb_49)), (72, (2, 2, sb_72))] : mi_T), sc_P e.1 = some e.2 := mi_tb mi_P81 (mi_tb mi_P16 (mi_tb mi_P49 (mi_tb mi_P72 (mi_tb_e))))
set_option maxRecDepth 20000 in
theorem ms_kgtA_2 {h : sm_H} {d : Nat} {Q : Option mi_V → sm_H → Prop} {zf : Int} (hS : ab_Sh sx_sk h) (ok_zf : mi_in zf) (ho : (((0 : Int)) ≤ zf) ∧ (zf < ((70 : Int))) ∧ (0 ≤ zf ∧ zf < 70) ∧ ((mi_a h 64 (Int.toNat zf)) ≤ ((1 : Int))) ∧ (((0 : Int)) ≤ zf) ∧ (zf < ((70 : Int))) ∧ (0 ≤ zf ∧ zf < 70) ∧ ((mi_a h 63 (Int.toNat zf)) < ((0 : Int)))) (kon : ∀ h1, me_W [] h h1 → me_E (d + 1) 81 44 [some (.inr (.inr 78)), some (.inl (zf)), some (.inl ((0 : Int))), some (.inl ((0 : Int))), some (.inl ((0 : Int)))] [] h1 Q) : me_E (d + 1) 81 0 [some (.inr (.inr 78)), some (.inl (zf)), none, none, none] [] h Q := mf_seg (mp_kgtA_2 h d zf) (mi_tab_kgtA_2) hS (mi_okL_c (trivial) (mi_okL_c (ok_zf) (mi_okL_n (mi_okL_n (mi_okL_n (mi_okL_e)))))) (mi_okS_e) (mi_al (ho.1) (mi_al (ho.2.1) (mi_al (ho.2.2.1) (mi_al (ho.2.2.2.1) (mi_al (ho.2.2.2.2.1) (mi_al (ho.2.2.2.2.2.1) (mi_al (ho.2.2.2.2.2.2.1) (mi_al (ho.2.2.2.2.2.2.2) (mi_al_e))))))))) (fun h1 W _ hst => kon h1 W)
set_option maxRecDepth 20000 in
theorem mp_kgtA_3 (h : sm_H) (d : Nat) (zf : Int) : mj_path [(81, (5, 1, sb_81)), (16, (3, 0, sb_16)), (49, (2, 1, sb_49)), (72, (2, 2, sb_72))] sx_sk h 51 [0, 0, 1, 0, 0, 0, 1] (d + 1, 81, 0, [some (.inr (.inr 78)), some (.inl (zf)), none, none, none], [], [], []) = some ((d + 1, 81, 44, [some (.inr (.inr 78)), some (.inl (zf)), some (.inl ((0 : Int))), some (.inl ((0 : Int))), some (.inl ((0 : Int)))], [], [], []), [((0 : Int)) ≤ zf, zf < ((70 : Int)), 0 ≤ zf ∧ zf < 70, (mi_a h 64 (Int.toNat zf)) ≤ ((1 : Int)), ((0 : Int)) ≤ zf, zf < ((70 : Int)), 0 ≤ zf ∧ zf < 70, ((0 : Int)) ≤ (mi_a h 63 (Int.toNat zf)), ((66 : Int)) ≤ (mi_a h 63 (Int.toNat zf))]) := rfl
theorem mi_tab_kgtA_3 : ∀ e ∈ ([(81, (5, 1, sb_81)), (16, (3, 0, sb_16)), (49, (2, 1, sb_49)), (72, (2, 2, sb_72))] : mi_T), sc_P e.1 = some e.2 := mi_tb mi_P81 (mi_tb mi_P16 (mi_tb mi_P49 (mi_tb mi_P72 (mi_tb_e))))
set_option maxRecDepth 20000 in
theorem ms_kgtA_3 {h : sm_H} {d : Nat} {Q : Option mi_V → sm_H → Prop} {zf : Int} (hS : ab_Sh sx_sk h) (ok_zf : mi_in zf) (ho : (((0 : Int)) ≤ zf) ∧ (zf < ((70 : Int))) ∧ (0 ≤ zf ∧ zf < 70) ∧ ((mi_a h 64 (Int.toNat zf)) ≤ ((1 : Int))) ∧ (((0 : Int)) ≤ zf) ∧ (zf < ((70 : Int))) ∧ (0 ≤ zf ∧ zf < 70) ∧ (((0 : Int)) ≤ (mi_a h 63 (Int.toNat zf))) ∧ (((66 : Int)) ≤ (mi_a h 63 (Int.toNat zf)))) (kon : ∀ h1, me_W [] h h1 → me_E (d + 1) 81 44 [some (.inr (.inr 78)), some (.inl (zf)), some (.inl ((0 : Int))), some (.inl ((0 : Int))), some (.inl ((0 : Int)))] [] h1 Q) : me_E (d + 1) 81 0 [some (.inr (.inr 78)), some (.inl (zf)), none, none, none] [] h Q := mf_seg (mp_kgtA_3 h d zf) (mi_tab_kgtA_3) hS (mi_okL_c (trivial) (mi_okL_c (ok_zf) (mi_okL_n (mi_okL_n (mi_okL_n (mi_okL_e)))))) (mi_okS_e) (mi_al (ho.1) (mi_al (ho.2.1) (mi_al (ho.2.2.1) (mi_al (ho.2.2.2.1) (mi_al (ho.2.2.2.2.1) (mi_al (ho.2.2.2.2.2.1) (mi_al (ho.2.2.2.2.2.2.1) (mi_al (ho.2.2.2.2.2.2.2.1) (mi_al (ho.2.2.2.2.2.2.2.2) (mi_al_e)))))))))) (fun h1 W _ hst => kon h1 W)
set_option maxRecDepth 20000 in
theorem mp_kgtA_4 (h : sm_H) (d : Nat) (zf : Int) : mj_path [(81, (5, 1, sb_81)), (16, (3, 0, sb_16)), (49, (2, 1, sb_49)), (72, (2, 2, sb_72))] sx_sk h 54 [0, 0, 1, 0, 0, 0, 0] (d + 1, 81, 0, [some (.inr (.inr 78)), some (.inl (zf)), none, none, none], [], [], []) = some ((d + 1, 81, 44, [some (.inr (.inr 78)), some (.inl (zf)), some (.inl ((0 : Int))), some (.inl (mi_a h 65 (Int.toNat (mi_a h 63 (Int.toNat zf))))), some (.inl ((0 : Int)))], [], [], []), [((0 : Int)) ≤ zf, zf < ((70 : Int)), 0 ≤ zf ∧ zf < 70, (mi_a h 64 (Int.toNat zf)) ≤ ((1 : Int)), ((0 : Int)) ≤ zf, zf < ((70 : Int)), 0 ≤ zf ∧ zf < 70, ((0 : Int)) ≤ (mi_a h 63 (Int.toNat zf)), (mi_a h 63 (Int.toNat zf)) < ((66 : Int)), 0 ≤ (mi_a h 63 (Int.toNat zf)) ∧ (mi_a h 63 (Int.toNat zf)) < 66]) := rfl
theorem mi_tab_kgtA_4 : ∀ e ∈ ([(81, (5, 1, sb_81)), (16, (3, 0, sb_16)), (49, (2, 1, sb_49)), (72, (2, 2, sb_72))] : mi_T), sc_P e.1 = some e.2 := mi_tb mi_P81 (mi_tb mi_P16 (mi_tb mi_P49 (mi_tb mi_P72 (mi_tb_e))))
set_option maxRecDepth 20000 in
theorem ms_kgtA_4 {h : sm_H} {d : Nat} {Q : Option mi_V → sm_H → Prop} {zf : Int} (hS : ab_Sh sx_sk h) (ok_zf : mi_in zf) (ho : (((0 : Int)) ≤ zf) ∧ (zf < ((70 : Int))) ∧ (0 ≤ zf ∧ zf < 70) ∧ ((mi_a h 64 (Int.toNat zf)) ≤ ((1 : Int))) ∧ (((0 : Int)) ≤ zf) ∧ (zf < ((70 : Int))) ∧ (0 ≤ zf ∧ zf < 70) ∧ (((0 : Int)) ≤ (mi_a h 63 (Int.toNat zf))) ∧ ((mi_a h 63 (Int.toNat zf)) < ((66 : Int))) ∧ (0 ≤ (mi_a h 63 (Int.toNat zf)) ∧ (mi_a h 63 (Int.toNat zf)) < 66)) (kon : ∀ h1, me_W [] h h1 → me_E (d + 1) 81 44 [some (.inr (.inr 78)), some (.inl (zf)), some (.inl ((0 : Int))), some (.inl (mi_a h 65 (Int.toNat (mi_a h 63 (Int.toNat zf))))), some (.inl ((0 : Int)))] [] h1 Q) : me_E (d + 1) 81 0 [some (.inr (.inr 78)), some (.inl (zf)), none, none, none] [] h Q := mf_seg (mp_kgtA_4 h d zf) (mi_tab_kgtA_4) hS (mi_okL_c (trivial) (mi_okL_c (ok_zf) (mi_okL_n (mi_okL_n (mi_okL_n (mi_okL_e)))))) (mi_okS_e) (mi_al (ho.1) (mi_al (ho.2.1) (mi_al (ho.2.2.1) (mi_al (ho.2.2.2.1) (mi_al (ho.2.2.2.2.1) (mi_al (ho.2.2.2.2.2.1) (mi_al (ho.2.2.2.2.2.2.1) (mi_al (ho.2.2.2.2.2.2.2.1) (mi_al (ho.2.2.2.2.2.2.2.2.1) (mi_al (ho.2.2.2.2.2.2.2.2.2) (mi_al_e))))))))))) (fun h1 W _ hst => kon h1 W)
set_option maxRecDepth 20000 in
theorem mp_kgtA_5 (h : sm_H) (d : Nat) (zf : Int) : mj_path [(81, (5, 1, sb_81)), (16, (3, 0, sb_16)), (49, (2, 1, sb_49)), (72, (2, 2, sb_72))] sx_sk h 19 [0, 0, 0] (d + 1, 81, 0, [some (.inr (.inr 78)), some (.inl (zf)), none, none, none], [], [], []) = some ((d + 1, 81, 16, [some (.inr (.inr 78)), some (.inl (zf)), none, none, none], [.inl ((1 : Int))], [], []), [((0 : Int)) ≤ zf, zf < ((70 : Int)), 0 ≤ zf ∧ zf < 70, ((1 : Int)) < (mi_a h 64 (Int.toNat zf))]) := rfl
theorem mi_tab_kgtA_5 : ∀ e ∈ ([(81, (5, 1, sb_81)), (16, (3, 0, sb_16)), (49, (2, 1, sb_49)), (72, (2, 2, sb_72))] : mi_T), sc_P e.1 = some e.2 := mi_tb mi_P81 (mi_tb mi_P16 (mi_tb mi_P49 (mi_tb mi_P72 (mi_tb_e))))
set_option maxRecDepth 20000 in
theorem ms_kgtA_5 {h : sm_H} {d : Nat} {Q : Option mi_V → sm_H → Prop} {zf : Int} (hS : ab_Sh sx_sk h) (ok_zf : mi_in zf) (ho : (((0 : Int)) ≤ zf) ∧ (zf < ((70 : Int))) ∧ (0 ≤ zf ∧ zf < 70) ∧ (((1 : Int)) < (mi_a h 64 (Int.toNat zf)))) (kon : ∀ h1, me_W [] h h1 → Q (some (.inl ((1 : Int)))) h1) : me_E (d + 1) 81 0 [some (.inr (.inr 78)), some (.inl (zf)), none, none, none] [] h Q := mf_seg (mp_kgtA_5 h d zf) (mi_tab_kgtA_5) hS (mi_okL_c (trivial) (mi_okL_c (ok_zf) (mi_okL_n (mi_okL_n (mi_okL_n (mi_okL_e)))))) (mi_okS_e) (mi_al (ho.1) (mi_al (ho.2.1) (mi_al (ho.2.2.1) (mi_al (ho.2.2.2) (mi_al_e))))) (fun h1 W _ hst => mf_ret (M := (5, 1, sb_81)) rfl rfl rfl hst (mi_al_e) (kon h1 W))
set_option maxRecDepth 20000 in
theorem mt_kgtA {h : sm_H} {d : Nat} {Q : Option mi_V → sm_H → Prop} {zf : Int} (hS : ab_Sh sx_sk h) (ok_zf : mi_in zf) (k0 : (zf < ((0 : Int))) → (∀ h1, ab_Sh sx_sk h1 → ab_Fr [] h h1 → me_E (d + 1) 81 44 [some (.inr (.inr 78)), some (.inl (zf)), some (.inl ((0 : Int))), some (.inl (mi_a h 65 (Int.toNat ((0 : Int))))), some (.inl ((0 : Int)))] [] h1 Q)) (k1 : (((0 : Int)) ≤ zf) → (((70 : Int)) ≤ zf) → (∀ h1, ab_Sh sx_sk h1 → ab_Fr [] h h1 → me_E (d + 1) 81 44 [some (.inr (.inr 78)), some (.inl (zf)), some (.inl ((0 : Int))), some (.inl (mi_a h 65 (Int.toNat ((0 : Int))))), some (.inl ((0 : Int)))] [] h1 Q)) (k2 : (((0 : Int)) ≤ zf) → (zf < ((70 : Int))) → ((mi_a h 64 (Int.toNat zf)) ≤ ((1 : Int))) → ((mi_a h 63 (Int.toNat zf)) < ((0 : Int))) → ((0 ≤ zf ∧ zf < 70)) ∧ (∀ h1, ab_Sh sx_sk h1 → ab_Fr [] h h1 → me_E (d + 1) 81 44 [some (.inr (.inr 78)), some (.inl (zf)), some (.inl ((0 : Int))), some (.inl ((0 : Int))), some (.inl ((0 : Int)))] [] h1 Q)) (k3 : (((0 : Int)) ≤ zf) → (zf < ((70 : Int))) → ((mi_a h 64 (Int.toNat zf)) ≤ ((1 : Int))) → (((0 : Int)) ≤ (mi_a h 63 (Int.toNat zf))) → (((66 : Int)) ≤ (mi_a h 63 (Int.toNat zf))) → ((0 ≤ zf ∧ zf < 70)) ∧ (∀ h1, ab_Sh sx_sk h1 → ab_Fr [] h h1 → me_E (d + 1) 81 44 [some (.inr (.inr 78)), some (.inl (zf)), some (.inl ((0 : Int))), some (.inl ((0 : Int))), some (.inl ((0 : Int)))] [] h1 Q)) (k4 : (((0 : Int)) ≤ zf) → (zf < ((70 : Int))) → ((mi_a h 64 (Int.toNat zf)) ≤ ((1 : Int))) → (((0 : Int)) ≤ (mi_a h 63 (Int.toNat zf))) → ((mi_a h 63 (Int.toNat zf)) < ((66 : Int))) → ((0 ≤ zf ∧ zf < 70) ∧ (0 ≤ (mi_a h 63 (Int.toNat zf)) ∧ (mi_a h 63 (Int.toNat zf)) < 66)) ∧ (∀ h1, ab_Sh sx_sk h1 → ab_Fr [] h h1 → me_E (d + 1) 81 44 [some (.inr (.inr 78)), some (.inl (zf)), some (.inl ((0 : Int))), some (.inl (mi_a h 65 (Int.toNat (mi_a h 63 (Int.toNat zf))))), some (.inl ((0 : Int)))] [] h1 Q)) (k5 : (((0 : Int)) ≤ zf) → (zf < ((70 : Int))) → (((1 : Int)) < (mi_a h 64 (Int.toNat zf))) → ((0 ≤ zf ∧ zf < 70)) ∧ (∀ h1, ab_Sh sx_sk h1 → ab_Fr [] h h1 → Q (some (.inl ((1 : Int)))) h1)) : me_E (d + 1) 81 0 [some (.inr (.inr 78)), some (.inl (zf)), none, none, none] [] h Q := Or.elim (mi_em .lt (zf) (((0 : Int)))) (fun c0 => ms_kgtA_0 hS ok_zf ⟨c0, (by decide), c0, (by decide), (by decide), (by decide)⟩ (fun h1 W => (k0 c0) h1 W.1 (W.2.2.2.2.2 _ rfl))) (fun c0 => Or.elim (mi_em .ge (zf) (((70 : Int)))) (fun c1 => ms_kgtA_1 hS ok_zf ⟨c0, c1, (by decide), c0, c1, (by decide), (by decide), (by decide)⟩ (fun h1 W => (k1 c0 c1) h1 W.1 (W.2.2.2.2.2 _ rfl))) (fun c1 => Or.elim (mi_em .le ((mi_a h 64 (Int.toNat zf))) (((1 : Int)))) (fun c2 => Or.elim (mi_em .lt ((mi_a h 63 (Int.toNat zf))) (((0 : Int)))) (fun c3 => ms_kgtA_2 hS ok_zf ⟨c0, c1, (k2 c0 c1 c2 c3).1, c2, c0, c1, (k2 c0 c1 c2 c3).1, c3⟩ (fun h1 W => (k2 c0 c1 c2 c3).2 h1 W.1 (W.2.2.2.2.2 _ rfl))) (fun c3 => Or.elim (mi_em .ge ((mi_a h 63 (Int.toNat zf))) (((66 : Int)))) (fun c4 => ms_kgtA_3 hS ok_zf ⟨c0, c1, (k3 c0 c1 c2 c3 c4).1, c2, c0, c1, (k3 c0 c1 c2 c3 c4).1, c3, c4⟩ (fun h1 W => (k3 c0 c1 c2 c3 c4).2 h1 W.1 (W.2.2.2.2.2 _ rfl))) (fun c4 => ms_kgtA_4 hS ok_zf ⟨c0, c1, (k4 c0 c1 c2 c3 c4).1.1, c2, c0, c1, (k4 c0 c1 c2 c3 c4).1.1, c3, c4, (k4 c0 c1 c2 c3 c4).1.2⟩ (fun h1 W => (k4 c0 c1 c2 c3 c4).2 h1 W.1 (W.2.2.2.2.2 _ rfl))))) (fun c2 => ms_kgtA_5 hS ok_zf ⟨c0, c1, (k5 c0 c1 c2).1, c2⟩ (fun h1 W => (k5 c0 c1 c2).2 h1 W.1 (W.2.2.2.2.2 _ rfl)))))
set_option maxRecDepth 20000 in
theorem mp_kgtB_0 (h : sm_H) (d : Nat) (zf zt zp zn : Int) : mj_path [(81, (5, 1, sb_81)), (16, (3, 0, sb_16)), (49, (2, 1, sb_49)), (72, (2, 2, sb_72))] sx_sk h 4 [1] (d + 1, 81, 44, [some (.inr (.inr 78)), some (.inl (zf)), some (.inl (zt)), some (.inl (zp)), some (.inl (zn))], [], [], []) = some ((d + 1, 81, 86, [some (.inr (.inr 78)), some (.inl (zf)), some (.inl (zt)), some (.inl (zp)), some (.inl (zn))], [.inl (zt)], [], []), [zp = ((-1 : Int))]) := rfl
theorem mi_tab_kgtB_0 : ∀ e ∈ ([(81, (5, 1, sb_81)), (16, (3, 0, sb_16)), (49, (2, 1, sb_49)), (72, (2, 2, sb_72))] : mi_T), sc_P e.1 = some e.2 := mi_tb mi_P81 (mi_tb mi_P16 (mi_tb mi_P49 (mi_tb mi_P72 (mi_tb_e))))
set_option maxRecDepth 20000 in
theorem ms_kgtB_0 {h : sm_H} {d : Nat} {Q : Option mi_V → sm_H → Prop} {zf zt zp zn : Int} (hS : ab_Sh sx_sk h) (ok_zf : mi_in zf) (ok_zt : mi_in zt) (ok_zp : mi_in zp) (ok_zn : mi_in zn) (ho : (zp = ((-1 : Int)))) (kon : ∀ h1, me_W [] h h1 → Q (some (.inl (zt))) h1) : me_E (d + 1) 81 44 [some (.inr (.inr 78)), some (.inl (zf)), some (.inl (zt)), some (.inl (zp)), some (.inl (zn))] [] h Q := mf_seg (mp_kgtB_0 h d zf zt zp zn) (mi_tab_kgtB_0) hS (mi_okL_c (trivial) (mi_okL_c (ok_zf) (mi_okL_c (ok_zt) (mi_okL_c (ok_zp) (mi_okL_c (ok_zn) (mi_okL_e)))))) (mi_okS_e) (mi_al (ho) (mi_al_e)) (fun h1 W _ hst => mf_ret (M := (5, 1, sb_81)) rfl rfl rfl hst (mi_al_e) (kon h1 W))
set_option maxRecDepth 20000 in
theorem mp_kgtB_1 (h : sm_H) (d : Nat) (zf zt zp zn : Int) : mj_path [(81, (5, 1, sb_81)), (16, (3, 0, sb_16)), (49, (2, 1, sb_49)), (72, (2, 2, sb_72))] sx_sk h 7 [0, 1] (d + 1, 81, 44, [some (.inr (.inr 78)), some (.inl (zf)), some (.inl (zt)), some (.inl (zp)), some (.inl (zn))], [], [], []) = some ((d + 1, 81, 86, [some (.inr (.inr 78)), some (.inl (zf)), some (.inl (zt)), some (.inl (zp)), some (.inl (zn))], [.inl (zt)], [], []), [zp ≠ ((-1 : Int)), ((60 : Int)) ≤ zn]) := rfl
theorem mi_tab_kgtB_1 : ∀ e ∈ ([(81, (5, 1, sb_81)), (16, (3, 0, sb_16)), (49, (2, 1, sb_49)), (72, (2, 2, sb_72))] : mi_T), sc_P e.1 = some e.2 := mi_tb mi_P81 (mi_tb mi_P16 (mi_tb mi_P49 (mi_tb mi_P72 (mi_tb_e))))
set_option maxRecDepth 20000 in
theorem ms_kgtB_1 {h : sm_H} {d : Nat} {Q : Option mi_V → sm_H → Prop} {zf zt zp zn : Int} (hS : ab_Sh sx_sk h) (ok_zf : mi_in zf) (ok_zt : mi_in zt) (ok_zp : mi_in zp) (ok_zn : mi_in zn) (ho : (zp ≠ ((-1 : Int))) ∧ (((60 : Int)) ≤ zn)) (kon : ∀ h1, me_W [] h h1 → Q (some (.inl (zt))) h1) : me_E (d + 1) 81 44 [some (.inr (.inr 78)), some (.inl (zf)), some (.inl (zt)), some (.inl (zp)), some (.inl (zn))] [] h Q := mf_seg (mp_kgtB_1 h d zf zt zp zn) (mi_tab_kgtB_1) hS (mi_okL_c (trivial) (mi_okL_c (ok_zf) (mi_okL_c (ok_zt) (mi_okL_c (ok_zp) (mi_okL_c (ok_zn) (mi_okL_e)))))) (mi_okS_e) (mi_al (ho.1) (mi_al (ho.2) (mi_al_e))) (fun h1 W _ hst => mf_ret (M := (5, 1, sb_81)) rfl rfl rfl hst (mi_al_e) (kon h1 W))
set_option maxRecDepth 20000 in
theorem mp_kgtB_2 (h : sm_H) (d : Nat) (zf zt zp zn : Int) : mj_path [(81, (5, 1, sb_81)), (16, (3, 0, sb_16)), (49, (2, 1, sb_49)), (72, (2, 2, sb_72))] sx_sk h 29 [0, 0, 1, 9, 1] (d + 1, 81, 44, [some (.inr (.inr 78)), some (.inl (zf)), some (.inl (zt)), some (.inl (zp)), some (.inl (zn))], [], [], []) = some ((d + 1, 81, 44, [some (.inr (.inr 78)), some (.inl (zf)), some (.inl ((Int32.ofInt zt + Int32.ofInt ((0 : Int))).toInt)), some (.inl ((0 : Int))), some (.inl (zn + 1))], [], [], []), [zp ≠ ((-1 : Int)), zn < ((60 : Int)), zp < ((0 : Int)), zp < ((0 : Int)), -2147483648 ≤ zn + 1 ∧ zn + 1 ≤ 2147483647]) := rfl
theorem mi_tab_kgtB_2 : ∀ e ∈ ([(81, (5, 1, sb_81)), (16, (3, 0, sb_16)), (49, (2, 1, sb_49)), (72, (2, 2, sb_72))] : mi_T), sc_P e.1 = some e.2 := mi_tb mi_P81 (mi_tb mi_P16 (mi_tb mi_P49 (mi_tb mi_P72 (mi_tb_e))))
set_option maxRecDepth 20000 in
theorem ms_kgtB_2 {h : sm_H} {d : Nat} {Q : Option mi_V → sm_H → Prop} {zf zt zp zn : Int} (hS : ab_Sh sx_sk h) (ok_zf : mi_in zf) (ok_zt : mi_in zt) (ok_zp : mi_in zp) (ok_zn : mi_in zn) (ho : (zp ≠ ((-1 : Int))) ∧ (zn < ((60 : Int))) ∧ (zp < ((0 : Int))) ∧ (zp < ((0 : Int))) ∧ (-2147483648 ≤ zn + 1 ∧ zn + 1 ≤ 2147483647)) (kon : ∀ h1, me_W [] h h1 → me_E (d + 1) 81 44 [some (.inr (.inr 78)), some (.inl (zf)), some (.inl ((Int32.ofInt zt + Int32.ofInt ((0 : Int))).toInt)), some (.inl ((0 : Int))), some (.inl (zn + 1))] [] h1 Q) : me_E (d + 1) 81 44 [some (.inr (.inr 78)), some (.inl (zf)), some (.inl (zt)), some (.inl (zp)), some (.inl (zn))] [] h Q := mf_seg (mp_kgtB_2 h d zf zt zp zn) (mi_tab_kgtB_2) hS (mi_okL_c (trivial) (mi_okL_c (ok_zf) (mi_okL_c (ok_zt) (mi_okL_c (ok_zp) (mi_okL_c (ok_zn) (mi_okL_e)))))) (mi_okS_e) (mi_al (ho.1) (mi_al (ho.2.1) (mi_al (ho.2.2.1) (mi_al (ho.2.2.2.1) (mi_al (ho.2.2.2.2) (mi_al_e)))))) (fun h1 W _ hst => kon h1 W)
set_option maxRecDepth 20000 in
theorem mp_kgtB_3 (h : sm_H) (d : Nat) (zf zt zp zn : Int) : mj_path [(81, (5, 1, sb_81)), (16, (3, 0, sb_16)), (49, (2, 1, sb_49)), (72, (2, 2, sb_72))] sx_sk h 37 [0, 0, 0, 1, 9, 0, 1] (d + 1, 81, 44, [some (.inr (.inr 78)), some (.inl (zf)), some (.inl (zt)), some (.inl (zp)), some (.inl (zn))], [], [], []) = some ((d + 1, 81, 44, [some (.inr (.inr 78)), some (.inl (zf)), some (.inl ((Int32.ofInt zt + Int32.ofInt ((0 : Int))).toInt)), some (.inl ((0 : Int))), some (.inl (zn + 1))], [], [], []), [zp ≠ ((-1 : Int)), zn < ((60 : Int)), ((0 : Int)) ≤ zp, ((60 : Int)) ≤ zp, ((0 : Int)) ≤ zp, ((60 : Int)) ≤ zp, -2147483648 ≤ zn + 1 ∧ zn + 1 ≤ 2147483647]) := rfl
theorem mi_tab_kgtB_3 : ∀ e ∈ ([(81, (5, 1, sb_81)), (16, (3, 0, sb_16)), (49, (2, 1, sb_49)), (72, (2, 2, sb_72))] : mi_T), sc_P e.1 = some e.2 := mi_tb mi_P81 (mi_tb mi_P16 (mi_tb mi_P49 (mi_tb mi_P72 (mi_tb_e))))
set_option maxRecDepth 20000 in
theorem ms_kgtB_3 {h : sm_H} {d : Nat} {Q : Option mi_V → sm_H → Prop} {zf zt zp zn : Int} (hS : ab_Sh sx_sk h) (ok_zf : mi_in zf) (ok_zt : mi_in zt) (ok_zp : mi_in zp) (ok_zn : mi_in zn) (ho : (zp ≠ ((-1 : Int))) ∧ (zn < ((60 : Int))) ∧ (((0 : Int)) ≤ zp) ∧ (((60 : Int)) ≤ zp) ∧ (((0 : Int)) ≤ zp) ∧ (((60 : Int)) ≤ zp) ∧ (-2147483648 ≤ zn + 1 ∧ zn + 1 ≤ 2147483647)) (kon : ∀ h1, me_W [] h h1 → me_E (d + 1) 81 44 [some (.inr (.inr 78)), some (.inl (zf)), some (.inl ((Int32.ofInt zt + Int32.ofInt ((0 : Int))).toInt)), some (.inl ((0 : Int))), some (.inl (zn + 1))] [] h1 Q) : me_E (d + 1) 81 44 [some (.inr (.inr 78)), some (.inl (zf)), some (.inl (zt)), some (.inl (zp)), some (.inl (zn))] [] h Q := mf_seg (mp_kgtB_3 h d zf zt zp zn) (mi_tab_kgtB_3) hS (mi_okL_c (trivial) (mi_okL_c (ok_zf) (mi_okL_c (ok_zt) (mi_okL_c (ok_zp) (mi_okL_c (ok_zn) (mi_okL_e)))))) (mi_okS_e) (mi_al (ho.1) (mi_al (ho.2.1) (mi_al (ho.2.2.1) (mi_al (ho.2.2.2.1) (mi_al (ho.2.2.2.2.1) (mi_al (ho.2.2.2.2.2.1) (mi_al (ho.2.2.2.2.2.2) (mi_al_e)))))))) (fun h1 W _ hst => kon h1 W)
set_option maxRecDepth 20000 in
theorem mp_kgtB_4 (h : sm_H) (d : Nat) (zf zt zp zn : Int) : mj_path [(81, (5, 1, sb_81)), (16, (3, 0, sb_16)), (49, (2, 1, sb_49)), (72, (2, 2, sb_72))] sx_sk h 43 [0, 0, 0, 0, 9, 0, 0] (d + 1, 81, 44, [some (.inr (.inr 78)), some (.inl (zf)), some (.inl (zt)), some (.inl (zp)), some (.inl (zn))], [], [], []) = some ((d + 1, 81, 44, [some (.inr (.inr 78)), some (.inl (zf)), some (.inl ((Int32.ofInt zt + Int32.ofInt (mi_a h 92 (Int.toNat zp))).toInt)), some (.inl (mi_a h 71 (Int.toNat zp))), some (.inl (zn + 1))], [], [], []), [zp ≠ ((-1 : Int)), zn < ((60 : Int)), ((0 : Int)) ≤ zp, zp < ((60 : Int)), 0 ≤ zp ∧ zp < 60, ((0 : Int)) ≤ zp, zp < ((60 : Int)), 0 ≤ zp ∧ zp < 60, -2147483648 ≤ zn + 1 ∧ zn + 1 ≤ 2147483647]) := rfl
theorem mi_tab_kgtB_4 : ∀ e ∈ ([(81, (5, 1, sb_81)), (16, (3, 0, sb_16)), (49, (2, 1, sb_49)), (72, (2, 2, sb_72))] : mi_T), sc_P e.1 = some e.2 := mi_tb mi_P81 (mi_tb mi_P16 (mi_tb mi_P49 (mi_tb mi_P72 (mi_tb_e))))
set_option maxRecDepth 20000 in
theorem ms_kgtB_4 {h : sm_H} {d : Nat} {Q : Option mi_V → sm_H → Prop} {zf zt zp zn : Int} (hS : ab_Sh sx_sk h) (ok_zf : mi_in zf) (ok_zt : mi_in zt) (ok_zp : mi_in zp) (ok_zn : mi_in zn) (ho : (zp ≠ ((-1 : Int))) ∧ (zn < ((60 : Int))) ∧ (((0 : Int)) ≤ zp) ∧ (zp < ((60 : Int))) ∧ (0 ≤ zp ∧ zp < 60) ∧ (((0 : Int)) ≤ zp) ∧ (zp < ((60 : Int))) ∧ (0 ≤ zp ∧ zp < 60) ∧ (-2147483648 ≤ zn + 1 ∧ zn + 1 ≤ 2147483647)) (kon : ∀ h1, me_W [] h h1 → me_E (d + 1) 81 44 [some (.inr (.inr 78)), some (.inl (zf)), some (.inl ((Int32.ofInt zt + Int32.ofInt (mi_a h 92 (Int.toNat zp))).toInt)), some (.inl (mi_a h 71 (Int.toNat zp))), some (.inl (zn + 1))] [] h1 Q) : me_E (d + 1) 81 44 [some (.inr (.inr 78)), some (.inl (zf)), some (.inl (zt)), some (.inl (zp)), some (.inl (zn))] [] h Q := mf_seg (mp_kgtB_4 h d zf zt zp zn) (mi_tab_kgtB_4) hS (mi_okL_c (trivial) (mi_okL_c (ok_zf) (mi_okL_c (ok_zt) (mi_okL_c (ok_zp) (mi_okL_c (ok_zn) (mi_okL_e)))))) (mi_okS_e) (mi_al (ho.1) (mi_al (ho.2.1) (mi_al (ho.2.2.1) (mi_al (ho.2.2.2.1) (mi_al (ho.2.2.2.2.1) (mi_al (ho.2.2.2.2.2.1) (mi_al (ho.2.2.2.2.2.2.1) (mi_al (ho.2.2.2.2.2.2.2.1) (mi_al (ho.2.2.2.2.2.2.2.2) (mi_al_e)))))))))) (fun h1 W _ hst => kon h1 W)
set_option maxRecDepth 20000 in
theorem mt_kgtB {h : sm_H} {d : Nat} {Q : Option mi_V → sm_H → Prop} {zf zt zp zn : Int} (hS : ab_Sh sx_sk h) (ok_zf : mi_in zf) (ok_zt : mi_in zt) (ok_zp : mi_in zp) (ok_zn : mi_in zn) (k0 : (zp = ((-1 : Int))) → (∀ h1, ab_Sh sx_sk h1 → ab_Fr [] h h1 → Q (some (.inl (zt))) h1)) (k1 : (zp ≠ ((-1 : Int))) → (((60 : Int)) ≤ zn) → (∀ h1, ab_Sh sx_sk h1 → ab_Fr [] h h1 → Q (some (.inl (zt))) h1)) (k2 : (zp ≠ ((-1 : Int))) → (zn < ((60 : Int))) → (zp < ((0 : Int))) → ((-2147483648 ≤ zn + 1 ∧ zn + 1 ≤ 2147483647)) ∧ (∀ h1, ab_Sh sx_sk h1 → ab_Fr [] h h1 → me_E (d + 1) 81 44 [some (.inr (.inr 78)), some (.inl (zf)), some (.inl ((Int32.ofInt zt + Int32.ofInt ((0 : Int))).toInt)), some (.inl ((0 : Int))), some (.inl (zn + 1))] [] h1 Q)) (k3 : (zp ≠ ((-1 : Int))) → (zn < ((60 : Int))) → (((0 : Int)) ≤ zp) → (((60 : Int)) ≤ zp) → ((-2147483648 ≤ zn + 1 ∧ zn + 1 ≤ 2147483647)) ∧ (∀ h1, ab_Sh sx_sk h1 → ab_Fr [] h h1 → me_E (d + 1) 81 44 [some (.inr (.inr 78)), some (.inl (zf)), some (.inl ((Int32.ofInt zt + Int32.ofInt ((0 : Int))).toInt)), some (.inl ((0 : Int))), some (.inl (zn + 1))] [] h1 Q)) (k4 : (zp ≠ ((-1 : Int))) → (zn < ((60 : Int))) → (((0 : Int)) ≤ zp) → (zp < ((60 : Int))) → ((0 ≤ zp ∧ zp < 60) ∧ (-2147483648 ≤ zn + 1 ∧ zn + 1 ≤ 2147483647)) ∧ (∀ h1, ab_Sh sx_sk h1 → ab_Fr [] h h1 → me_E (d + 1) 81 44 [some (.inr (.inr 78)), some (.inl (zf)), some (.inl ((Int32.ofInt zt + Int32.ofInt (mi_a h 92 (Int.toNat zp))).toInt)), some (.inl (mi_a h 71 (Int.toNat zp))), some (.inl (zn + 1))] [] h1 Q)) : me_E (d + 1) 81 44 [some (.inr (.inr 78)), some (.inl (zf)), some (.inl (zt)), some (.inl (zp)), some (.inl (zn))] [] h Q := Or.elim (mi_em .eq (zp) (((-1 : Int)))) (fun c0 => ms_kgtB_0 hS ok_zf ok_zt ok_zp ok_zn (c0) (fun h1 W => (k0 c0) h1 W.1 (W.2.2.2.2.2 _ rfl))) (fun c0 => Or.elim (mi_em .ge (zn) (((60 : Int)))) (fun c1 => ms_kgtB_1 hS ok_zf ok_zt ok_zp ok_zn ⟨c0, c1⟩ (fun h1 W => (k1 c0 c1) h1 W.1 (W.2.2.2.2.2 _ rfl))) (fun c1 => Or.elim (mi_em .lt (zp) (((0 : Int)))) (fun c2 => ms_kgtB_2 hS ok_zf ok_zt ok_zp ok_zn ⟨c0, c1, c2, c2, (k2 c0 c1 c2).1⟩ (fun h1 W => (k2 c0 c1 c2).2 h1 W.1 (W.2.2.2.2.2 _ rfl))) (fun c2 => Or.elim (mi_em .ge (zp) (((60 : Int)))) (fun c3 => ms_kgtB_3 hS ok_zf ok_zt ok_zp ok_zn ⟨c0, c1, c2, c3, c2, c3, (k3 c0 c1 c2 c3).1⟩ (fun h1 W => (k3 c0 c1 c2 c3).2 h1 W.1 (W.2.2.2.2.2 _ rfl))) (fun c3 => ms_kgtB_4 hS ok_zf ok_zt ok_zp ok_zn ⟨c0, c1, c2, c3, (k4 c0 c1 c2 c3).1.1, c2, c3, (k4 c0 c1 c2 c3).1.1, (k4 c0 c1 c2 c3).1.2⟩ (fun h1 W => (k4 c0 c1 c2 c3).2 h1 W.1 (W.2.2.2.2.2 _ rfl))))))
/-! the class's Sets: how many nodes a part makes side by side -/
def lsw (t : Nat → Int) : Int → List Int → Int
  | z, [] => z
  | z, u :: r => lsw t ((Int32.ofInt z + Int32.ofInt (t u.toNat)).toInt) r
def tvc (t : Nat → Int) (h : sm_H) (u : Int) : Int := if mi_a h 72 u.toNat ≠ 0 then 1 else if mi_a h 68 u.toNat = 1 ∨ mi_a h 68 u.toNat = 2 ∨ mi_a h 68 u.toNat = 9 then 1 else if mi_a h 68 u.toNat = 10 then (if 1 < mi_a h 64 (mi_a h 69 u.toNat).toNat then 1 else lsw t 0 (cv_row h 60 (mi_a h 65 (mi_a h 63 (mi_a h 69 u.toNat).toNat).toNat))) else 0
def tc_P (h : sm_H) (U : Int) : Prop := mi_f h 7690 = U ∧ (0 ≤ U ∧ U ≤ 60) ∧ ∀ u, 0 ≤ u → u < U → (mi_a h 71 u.toNat = -1 ∨ (u < mi_a h 71 u.toNat ∧ mi_a h 71 u.toNat < U)) ∧ (mi_a h 68 u.toNat = 10 → (0 ≤ mi_a h 69 u.toNat ∧ mi_a h 69 u.toNat < 70) ∧ (mi_a h 64 (mi_a h 69 u.toNat).toNat ≤ 1 → (0 ≤ mi_a h 63 (mi_a h 69 u.toNat).toNat ∧ mi_a h 63 (mi_a h 69 u.toNat).toNat < 66) ∧ (mi_a h 65 (mi_a h 63 (mi_a h 69 u.toNat).toNat).toNat = -1 ∨ (u < mi_a h 65 (mi_a h 63 (mi_a h 69 u.toNat).toNat).toNat ∧ mi_a h 65 (mi_a h 63 (mi_a h 69 u.toNat).toNat).toNat < U))))
def tc_Q (h h' : sm_H) (U : Int) : Prop := ∀ u, 0 ≤ u → u < U → mi_a h' 92 u.toNat = tvc (mi_a h' 92) h u
section TPC
variable {d : Nat} {h : sm_H} {U : Int}
theorem lsw_cg {t t' : Nat → Int} : ∀ (l : List Int) (z : Int), (∀ y ∈ l, t y.toNat = t' y.toNat) → lsw t z l = lsw t' z l := by
  intro l
  induction l with
  | nil => intro z _; rfl
  | cons u r ih =>
    intro z h
    show lsw t _ r = lsw t' _ r
    rw [h u List.mem_cons_self]
    exact ih _ (fun y hy => h y (List.mem_cons_of_mem _ hy))
theorem cvr_gt (hl : ∀ u, 0 ≤ u → u < U → (mi_a h 71 u.toNat = -1 ∨ (u < mi_a h 71 u.toNat ∧ mi_a h 71 u.toNat < U))) {v : Int} (hv : -1 ≤ v) : ∀ (n : Nat) (p : Int), (p = -1 ∨ (v < p ∧ p < U)) → ∀ y ∈ cv_row h n p, v < y ∧ y < U := by
  intro n
  induction n with
  | zero => intro p _ y hy; cases hy
  | succ n ih =>
    intro p hp y hy
    rw [cv_row_c] at hy
    by_cases c : p = -1
    · rw [if_pos c] at hy
      cases hy
    · rw [if_neg c] at hy
      have hp := hp.resolve_left c
      rcases List.mem_cons.mp hy with e | hy
      · subst e
        exact hp
      · refine ih _ ?_ y hy
        rcases hl p (by omega) hp.2 with q | q
        · exact Or.inl q
        · exact Or.inr ⟨by omega, q.2⟩
theorem tvc_cg {t t' : Nat → Int} (hP : tc_P h U) {u : Int} (u0 : 0 ≤ u) (u1 : u < U) (e : ∀ v, u < v → v < U → t v.toNat = t' v.toNat) : tvc t h u = tvc t' h u := by
  unfold tvc
  split
  · rfl
  · split
    · rfl
    · split
      · next q =>
        split
        · rfl
        · next q2 =>
          have k := ((hP.2.2 u u0 u1).2 q).2 (by omega)
          exact lsw_cg _ _ (fun y hy => by
            have := cvr_gt (fun u a b => (hP.2.2 u a b).1) (v := u) (by omega) 60 _ k.2 y hy
            exact e y this.1 this.2)
      · rfl
theorem gt44 {zf : Int} (hS : ab_Sh sx_sk h) (of : mi_in zf) (hP : tc_P h U) : ∀ (N : Nat) (zn zp zt : Int), 60 - zn = N → 0 ≤ zn → mi_in zt → (zp = -1 ∨ (0 ≤ zp ∧ zp < U)) → me_E (d + 1) 81 44 [some (.inr (.inr 78)), some (.inl zf), some (.inl zt), some (.inl zp), some (.inl zn)] [] h (fun w h' => h' = h ∧ w = some (.inl (lsw (mi_a h 92) zt (cv_row h N zp)))) := by
  have u60 := hP.2.1
  intro N
  induction N with
  | zero =>
    intro zn zp zt hN n0 ot hp
    refine mt_kgtB hS of ot ⟨by omega, by omega⟩ ⟨by omega, by omega⟩ ?_ ?_ (by intros; exfalso; omega) (by intros; exfalso; omega) (by intros; exfalso; omega)
    · intro c1 h1 g1 g2
      exact ⟨me_nil g2, rfl⟩
    · intro c1 c2 h1 g1 g2
      exact ⟨me_nil g2, rfl⟩
  | succ N ih =>
    intro zn zp zt hN n0 ot hp
    refine mt_kgtB hS of ot ⟨by omega, by omega⟩ ⟨by omega, by omega⟩ ?_ (by intros; exfalso; omega) (by intros; exfalso; omega) (by intros; exfalso; omega) ?_
    · intro c1 h1 g1 g2
      refine ⟨me_nil g2, ?_⟩
      rw [cv_row_c, if_pos c1]
      rfl
    · intro c1 c2 c3 c4
      refine ⟨⟨⟨by omega, by omega⟩, by omega, by omega⟩, fun h1 g1 g2 => ?_⟩
      have e := me_nil g2
      subst e
      have hp' := hp.resolve_left c1
      rw [cv_row_c, if_neg c1]
      refine ih (zn + 1) _ _ (by omega) (by omega) (mi_inT _) ?_
      rcases (hP.2.2 zp hp'.1 hp'.2).1 with q | q
      · exact Or.inl q
      · exact Or.inr ⟨by omega, q.2⟩
theorem me_gtops {zf : Int} (hS : ab_Sh sx_sk h) (hP : tc_P h U) (f0 : 0 ≤ zf) (f1 : zf < 70) (hf : mi_a h 64 zf.toNat ≤ 1 → (0 ≤ mi_a h 63 zf.toNat ∧ mi_a h 63 zf.toNat < 66) ∧ (mi_a h 65 (mi_a h 63 zf.toNat).toNat = -1 ∨ (0 ≤ mi_a h 65 (mi_a h 63 zf.toNat).toNat ∧ mi_a h 65 (mi_a h 63 zf.toNat).toNat < U))) : me_E (d + 1) 81 0 [some (.inr (.inr 78)), some (.inl zf), none, none, none] [] h (fun w h' => h' = h ∧ w = some (.inl (if 1 < mi_a h 64 zf.toNat then 1 else lsw (mi_a h 92) 0 (cv_row h 60 (mi_a h 65 (mi_a h 63 zf.toNat).toNat))))) := by
  have of : mi_in zf := ⟨by omega, by omega⟩
  refine mt_kgtA hS of (by intros; exfalso; omega) (by intros; exfalso; omega) ?_ ?_ ?_ ?_
  · intro c1 c2 c3 c4
    have := (hf c3).1
    exfalso; omega
  · intro c1 c2 c3 c4 c5
    have := (hf c3).1
    exfalso; omega
  · intro c1 c2 c3 c4 c5
    refine ⟨⟨⟨by omega, by omega⟩, by omega, by omega⟩, fun h1 g1 g2 => ?_⟩
    have e := me_nil g2
    subst e
    rw [if_neg (by omega)]
    exact gt44 hS of hP 60 0 _ 0 (by decide) (by decide) ⟨by decide, by decide⟩ (hf c3).2
  · intro c1 c2 c3
    refine ⟨⟨by omega, by omega⟩, fun h1 g1 g2 => ?_⟩
    have e := me_nil g2
    subst e
    rw [if_pos c3]
    exact ⟨rfl, rfl⟩
theorem me_findTops (hS : ab_Sh sx_sk h) (hP : tc_P h U) : me_E (d + 2) 80 0 [some (.inr (.inr 78)), none, none, none] [] h (fun w h' => w = none ∧ ab_Sh sx_sk h' ∧ ab_Fr [(11776, 11777)] h h' ∧ tc_Q h h' U) := by
  have u60 := hP.2.1
  have lp : ∀ (N : Nat) (zp : Int) (q2 q3 : Option mi_V) (h1 : sm_H), zp + 1 = N → zp < U → (∀ v, q2 = some v → mi_ok v) → (∀ v, q3 = some v → mi_ok v) → ab_Sh sx_sk h1 → ab_Fr [(11776, 11777)] h h1 → (∀ u, zp < u → 0 ≤ u → u < U → mi_a h1 92 u.toNat = tvc (mi_a h1 92) h u) → me_E (d + 2) 80 10 [some (.inr (.inr 78)), some (.inl zp), q2, q3] [] h1 (fun w h' => w = none ∧ ab_Sh sx_sk h' ∧ ab_Fr [(11776, 11777)] h h' ∧ tc_Q h h' U) := by
    intro N
    induction N with
    | zero =>
      intro zp q2 q3 h1 hN hz o2 o3 hS1 hF hv
      refine mt_kftB hS1 ⟨by omega, by omega⟩ o2 o3 ?_ (by intros; exfalso; omega) (by intros; exfalso; omega) (by intros; exfalso; omega) (by intros; exfalso; omega) (by intros; exfalso; omega)
      intro c1 h2 g1 g2
      have e := me_nil g2
      subst e
      exact ⟨rfl, g1, hF, fun u u0 u1 => hv u (by omega) u0 u1⟩
    | succ N ih =>
      intro zp q2 q3 h1 hN hz o2 o3 hS1 hF hv
      have z0 : 0 ≤ zp := by omega
      have op : mi_in zp := ⟨by omega, by omega⟩
      have a : ∀ k, k ∈ [63, 64, 65, 68, 69, 71, 72] → mi_a h1 k = mi_a h k := fun k hk => funext fun i => by
        simp only [List.mem_cons, List.not_mem_nil, or_false] at hk
        rcases hk with rfl | rfl | rfl | rfl | rfl | rfl | rfl
        · exact me_a (k := 63) hF hS rfl rfl
        · exact me_a (k := 64) hF hS rfl rfl
        · exact me_a (k := 65) hF hS rfl rfl
        · exact me_a (k := 68) hF hS rfl rfl
        · exact me_a (k := 69) hF hS rfl rfl
        · exact me_a (k := 71) hF hS rfl rfl
        · exact me_a (k := 72) hF hS rfl rfl
      have a68 := congrFun (a 68 (by decide)) zp.toNat
      have a72 := congrFun (a 72 (by decide)) zp.toNat
      have hcr : ∀ n p, cv_row h1 n p = cv_row h n p := by
        intro n
        induction n with
        | zero => intro p; rfl
        | succ n ih2 =>
          intro p
          rw [cv_row_c, cv_row_c, a 71 (by decide), ih2]
      have hP1 : tc_P h1 U := by
        unfold tc_P at hP ⊢
        rw [a 63 (by decide), a 64 (by decide), a 65 (by decide), a 68 (by decide), a 69 (by decide), a 71 (by decide), me_f (c := 7690) hF hS rfl rfl]
        exact hP
      have o68 : mi_in (mi_a h1 68 zp.toNat) := mi_inT _
      -- it is put down
      have fin : ∀ zt, mi_in zt → (mi_a h 72 zp.toNat = 0 → zt = tvc (mi_a h1 92) h zp) → me_E (d + 2) 80 70 [some (.inr (.inr 78)), some (.inl zp), some (.inl (mi_a h1 68 zp.toNat)), some (.inl zt)] [] h1 (fun w h' => w = none ∧ ab_Sh sx_sk h' ∧ ab_Fr [(11776, 11777)] h h' ∧ tc_Q h h' U) := by
        intro zt ot hzt
        have go : ∀ (x : Int) (h2 : sm_H), ab_Sh sx_sk h2 → x = tvc (mi_a h1 92) h zp → (∀ i, mi_a h2 92 i = if i = zp.toNat then x else mi_a h1 92 i) → ab_Fr [(11776, 11777)] h1 h2 → me_E (d + 2) 80 10 [some (.inr (.inr 78)), some (.inl (zp + (-1))), some (.inl (mi_a h1 68 zp.toNat)), some (.inl zt)] [] h2 (fun w h' => w = none ∧ ab_Sh sx_sk h' ∧ ab_Fr [(11776, 11777)] h h' ∧ tc_Q h h' U) := by
          intro x h2 s1 ex s2 s3
          refine ih (zp + (-1)) _ _ h2 (by omega) (by omega) (me_oi o68) (me_oi ot) s1 (hF.trans s3) (fun u c0 u0 u1 => ?_)
          have ecg : tvc (mi_a h2 92) h u = tvc (mi_a h1 92) h u := tvc_cg hP u0 u1 (fun v v0 v1 => by rw [s2, if_neg (by omega)])
          rw [ecg, s2]
          by_cases cu : u.toNat = zp.toNat
          · rw [if_pos cu, ex, show u = zp by omega]
          · rw [if_neg cu]
            exact hv u (by omega) u0 u1
        refine mt_kftE hS1 op o68 ot (by intros; exfalso; omega) (by intros; exfalso; omega) ?_ ?_
        · intro c1 c2 c3
          refine ⟨⟨⟨by omega, by omega⟩, by omega, by omega⟩, fun h2 s1 s2 s3 => go 1 h2 s1 ?_ s2 s3⟩
          unfold tvc
          rw [if_pos (by rw [← a72]; exact c3)]
        · intro c1 c2 c3
          exact ⟨⟨⟨by omega, by omega⟩, by omega, by omega⟩, fun h2 s1 s2 s3 => go zt h2 s1 (hzt (by rw [← a72]; exact c3)) s2 s3⟩
      -- what it is without repeats
      have mid : ∀ zt, mi_in zt → (mi_a h1 68 zp.toNat ≠ 10 → mi_a h 72 zp.toNat = 0 → zt = tvc (mi_a h1 92) h zp) → ∀ h2, ab_Sh sx_sk h2 → ab_Fr [] h1 h2 → me_E (d + 2) 80 48 [some (.inr (.inr 78)), some (.inl zp), some (.inl (mi_a h1 68 zp.toNat)), some (.inl zt)] [] h2 (fun w h' => w = none ∧ ab_Sh sx_sk h' ∧ ab_Fr [(11776, 11777)] h h' ∧ tc_Q h h' U) := by
        intro zt ot hzt h2 g1 g2
        have e := me_nil g2
        subst e
        refine mt_kftC hS1 op o68 ot ?_ (by intros; exfalso; omega) (by intros; exfalso; omega) ?_
        · intro c1 h3 r1 r2
          have e := me_nil r2
          subst e
          exact fin zt ot (hzt c1)
        · intro c1 c2 c3
          have k10 := (hP1.2.2 zp z0 hz).2 c1
          refine ⟨⟨by omega, by omega⟩, fun h3 r1 r2 => ?_⟩
          have e := me_nil r2
          subst e
          refine ⟨_, me_gtops (d := d) hS1 hP1 k10.1.1 k10.1.2 (fun q => ⟨(k10.2 q).1, by have := (k10.2 q).2; omega⟩), fun w h4 hw hq => ?_⟩
          obtain ⟨rfl, rfl⟩ := hq
          refine mt_kftD hS1 op o68 ot (hw _ rfl) ?_
          intro h5 s1 s2
          have e := me_nil s2
          subst e
          refine fin _ (hw _ rfl) (fun q => ?_)
          have c10 : mi_a h 68 zp.toNat = 10 := by rw [← a68]; exact c1
          have ev : tvc (mi_a h5 92) h zp = (if 1 < mi_a h 64 (mi_a h 69 zp.toNat).toNat then 1 else lsw (mi_a h5 92) 0 (cv_row h 60 (mi_a h 65 (mi_a h 63 (mi_a h 69 zp.toNat).toNat).toNat))) := by
            unfold tvc
            rw [if_neg (show ¬ mi_a h 72 zp.toNat ≠ 0 from fun z => z q), if_neg (show ¬ (mi_a h 68 zp.toNat = 1 ∨ mi_a h 68 zp.toNat = 2 ∨ mi_a h 68 zp.toNat = 9) by omega), if_pos c10]
          rw [ev, hcr, a 63 (by decide), a 64 (by decide), a 65 (by decide), a 69 (by decide)]
      refine mt_kftB hS1 op o2 o3 (by intros; exfalso; omega) (by intros; exfalso; omega) ?_ ?_ ?_ ?_
      · intro c1 c2 c3
        refine ⟨⟨by omega, by omega⟩, mid 1 ⟨by decide, by decide⟩ (fun _ q => ?_)⟩
        unfold tvc
        rw [if_neg (fun z => z q), if_pos (Or.inl (by rw [← a68]; exact c3))]
      · intro c1 c2 c3 c4
        refine ⟨⟨by omega, by omega⟩, mid 1 ⟨by decide, by decide⟩ (fun _ q => ?_)⟩
        unfold tvc
        rw [if_neg (fun z => z q), if_pos (Or.inr (Or.inl (by rw [← a68]; exact c4)))]
      · intro c1 c2 c3 c4 c5
        refine ⟨⟨by omega, by omega⟩, mid 0 ⟨by decide, by decide⟩ (fun n10 q => ?_)⟩
        unfold tvc
        rw [if_neg (fun z => z q), if_neg (by rw [← a68]; omega), if_neg (by rw [← a68]; exact n10)]
      · intro c1 c2 c3 c4 c5
        refine ⟨⟨by omega, by omega⟩, mid 1 ⟨by decide, by decide⟩ (fun _ q => ?_)⟩
        unfold tvc
        rw [if_neg (fun z => z q), if_pos (Or.inr (Or.inr (by rw [← a68]; exact c5)))]
  refine mt_kftA hS ?_
  intro b
  have e90 := hP.1
  refine ⟨by omega, fun h1 g1 g2 => ?_⟩
  have e := me_nil g2
  subst e
  rw [e90]
  exact lp U.toNat (U - 1) none none h1 (by omega) (by omega) me_on me_on hS ab_Fr.refl (fun u c0 u0 u1 => by omega)
theorem tvc_eq {h' : sm_H} (e : cv_eq h h') {t : Nat → Int} {u : Int} : tvc t h' u = tvc t h u := by
  obtain ⟨e1, e2, e3, e4, e5, e6, e7, e8⟩ := e
  have hcr : ∀ n p, cv_row h' n p = cv_row h n p := by
    intro n
    induction n with
    | zero => intro p; rfl
    | succ n ih => intro p; rw [cv_row_c, cv_row_c, e7, ih]
  unfold tvc
  rw [hcr, e1, e2, e3, e5, e6, e8]
theorem tc_P_eq {h' : sm_H} (e : cv_eq h h') (f : mi_f h' 7690 = mi_f h 7690) (hP : tc_P h U) : tc_P h' U := by
  obtain ⟨e1, e2, e3, e4, e5, e6, e7, e8⟩ := e
  unfold tc_P at hP ⊢
  rw [e1, e2, e3, e5, e6, e7, f]
  exact hP
theorem tc_Q_eq {h1 h2 h1' h2' : sm_H} (e : cv_eq h1 h1') (e92 : mi_a h2' 92 = mi_a h2 92) (hQ : tc_Q h1 h2 U) : tc_Q h1' h2' U := fun u u0 u1 => by
  rw [e92, tvc_eq e]
  exact hQ u u0 u1
end TPC
/-! the class's Sets: all of it worked out -/
def wx_Q (hb : sm_H) (w : Option mi_V) (h' : sm_H) : Prop := w = none ∧ ab_Sh sx_sk h' ∧ ab_Fr wk_W hb h' ∧ ∃ (j k : Nat) (W0 : sp_F), sp_eq 70 (cX h') (sps_k (GC hb) 70 j) ∧ sp_fix 70 (GC hb) (sps_k (GC hb) 70 j) ∧ (∀ i : Nat, i < 70 → W0 i = if i = 0 then 1 else 0) ∧ (∀ i : Nat, mx_b h' 81 i = sk_k (sps_k (GC hb) 70 j) (GC hb) 70 W0 k i) ∧ sw_sol (sps_k (GC hb) 70 j) 70 (GC hb) (sk_k (sps_k (GC hb) 70 j) (GC hb) 70 W0 k) ∧
  (∀ F : Nat, F < 70 → ∀ u : Nat, cv_of hb F u → pt_ok (cv_p hb) (sps_k (GC hb) 70 j) h' u ∧ mx_b h' 91 u = pf_v hb (sps_k (GC hb) 70 j) (mx_b h' 81 F) u) ∧
  (∀ F : Nat, F < 70 → ∀ a ∈ cv_A hb F, mx_b h' 88 a.toNat = sa_s (sps_k (GC hb) 70 j) ((cv_l hb a).map (cv_p hb)) ||| (if sa_v (sps_k (GC hb) 70 j) ((cv_l hb a).map (cv_p hb)) = 1 then mx_b h' 81 F else 0)) ∧
  (∃ i, sp_eq 70 (cB h') (sps_k (bG (GC hb)) 70 i) ∧ sp_fix 70 (bG (GC hb)) (sps_k (bG (GC hb)) 70 i)) ∧ ∀ F : Nat, F < 70 → ∀ a ∈ cv_A hb F, mi_a h' 87 a.toNat = min 1000 (sa_h (sps_k (GC hb) 70 j) ((cv_l hb a).map (cv_p hb)))
/-- .. and the tops -/
def wx_T (hb : sm_H) (U : Int) (w : Option mi_V) (h' : sm_H) : Prop := wx_Q hb w h' ∧ tc_Q hb h' U
section WRX
variable {d : Nat} {hb : sm_H} {U : Int}
theorem cv_eq.A {h h' : sm_H} (e : cv_eq h h') (F : Nat) : cv_A h' F = cv_A h F := by
  unfold cv_A
  rw [e.n, e.as, e.1]
theorem wx_loop (hSb : ab_Sh sx_sk hb) (hF : cv_F hb U) (hD : cv_D hb) (hE : cv_E hb) (hTP : tc_P hb U) : ∀ (N : Nat) (zf : Int) (h : sm_H), 70 - zf < N → 0 ≤ zf → zf ≤ 70 → ab_Sh sx_sk h → ab_Fr [(10112, 10625)] hb h → (∀ i : Nat, (i : Int) < zf → mi_a h 79 i = 0 ∧ mx_b h 80 i = 0 ∧ mi_a h 82 i = 1000 ∧ mi_a h 83 i = 0 ∧ mx_b h 81 i = if i = 0 then 1 else 0) → me_E (d + 7) 65 2 [some (.inr (.inr 78)), some (.inl zf)] [] h (wx_T hb U) := by
  intro N
  induction N with
  | zero => intro zf h hN z0 z1; exfalso; omega
  | succ N ih =>
    intro zf h hN z0 z1 hS hFr hv
    have of : mi_in zf := ⟨by omega, by omega⟩
    refine mt_wkB hS of ?_ ?_ ?_
    · intro c1 h1 g1 g2
      have e0 := me_nil g2
      subst e0
      have e : cv_eq hb h1 := cv_eq_fr hFr hSb rfl
      have hF1 := e.F hF
      have h70 : sp_eq 70 (cX h1) sp_bot := fun F hF' => by
        obtain ⟨x1, x2, x3, -⟩ := hv F (by omega)
        exact ⟨x1, x2, x3⟩
      refine ⟨_, me_spreadStartsB (d := d) (hb := h1) hS hF1 hS ab_Fr.refl h70 (fun F hF' => (hv F (by omega)).2.2.2.1), fun w h2 oww hq => ?_⟩
      obtain ⟨⟨rfl, s1, s2, j, s3, s4, s5⟩, ⟨j2, x1, x2⟩, jB, x3, x4⟩ := hq
      rw [e.g] at s3 s4 s5 x1 x2 x3 x4
      rw [e.p] at s5
      have F2 : ab_Fr wk_W hb h2 := (hFr.wide (fun c hc => ab_swr_ok (by decide) hc)).trans (s2.wide (fun c hc => ab_swr_ok (by decide) hc))
      have e2 : cv_eq hb h2 := cv_eq_fr F2 hSb rfl
      refine mt_wkC s1 of (fun h3 g1 g2 => ?_)
      have e0 := me_nil g2
      subst e0
      refine ⟨_, me_spreadFollowsF (d := d) (hb := hb) (X := sps_k (GC hb) 70 j) hSb hF hD (sps_k_01 j) s1 e2 (fun F hF' u hu => s5 F hF' u (e.of.mpr hu)), fun w h4 oww hq => ?_⟩
      obtain ⟨rfl, t1, t2, k, t3, t4, t5⟩ := hq
      have F4 : ab_Fr wk_W hb h4 := F2.trans (t2.wide (fun c hc => ab_swr_ok (by decide) hc))
      have eX4 : cX h4 = cX h3 := cX_fr t2 s1 rfl
      have eB4 : cB h4 = cB h3 := cB_fr t2 s1 rfl
      refine mt_wkD t1 of (fun h5 g1 g2 => ?_)
      have e0 := me_nil g2
      subst e0
      refine ⟨_, me_findDirectors (d := d) t1 (e2.trans (cv_eq_fr t2 s1 rfl)) hF hE, fun w h6 oww hq => ?_⟩
      obtain ⟨rfl, u1, u2, u3⟩ := hq
      refine mt_wkE u1 of (fun h7 g1 g2 => ?_)
      have e0 := me_nil g2
      subst e0
      have F6' : ab_Fr wk_W hb h7 := F4.trans (u2.wide (fun c hc => ab_swr_ok (by decide) hc))
      have e7 : cv_eq hb h7 := cv_eq_fr F6' hSb rfl
      refine ⟨_, me_findTops (d := d + 4) (U := U) u1 (tc_P_eq e7 (me_f (c := 7690) F6' hSb rfl rfl) hTP), fun w h8 oww hq => ?_⟩
      obtain ⟨rfl, v1, v2, v3⟩ := hq
      refine mt_wkF v1 of (fun h9 g1 g2 => ?_)
      have e0 := me_nil g2
      subst e0
      have F9 : ab_Fr wk_W hb h9 := (F4.trans (u2.wide (fun c hc => ab_swr_ok (by decide) hc))).trans (v2.wide (fun c hc => ab_swr_ok (by decide) hc))
      have eX9 : cX h9 = cX h3 := ((cX_fr v2 u1 rfl).trans (cX_fr u2 t1 rfl)).trans eX4
      have eB9 : cB h9 = cB h3 := ((cB_fr v2 u1 rfl).trans (cB_fr u2 t1 rfl)).trans eB4
      have f81 : ∀ i, mx_b h9 81 i = mx_b h5 81 i := fun i => (me_b (k := 81) v2 u1 rfl rfl).trans (me_b (k := 81) u2 t1 rfl rfl)
      refine ⟨⟨rfl, v1, F9, j, k, mx_b h3 81, by rw [eX9]; exact s3, s4, fun i hi => ?_, fun i => ?_, t4, fun F hF' u hu => ⟨?_, ?_⟩, fun F hF' a ha => ?_, ⟨jB, by rw [eB9]; exact x3, x4⟩, fun F hF' a ha => ?_⟩, tc_Q_eq (h1 := h7) ⟨e7.1.symm, e7.2.1.symm, e7.2.2.1.symm, e7.2.2.2.1.symm, e7.2.2.2.2.1.symm, e7.2.2.2.2.2.1.symm, e7.2.2.2.2.2.2.1.symm, e7.2.2.2.2.2.2.2.symm⟩ rfl v3⟩
      · rw [me_b (k := 81) s2 hS rfl rfl]
        exact (hv i (by omega)).2.2.2.2
      · rw [f81, t3]
      · obtain ⟨y1, y2⟩ := s5 F hF' u (e.of.mpr hu)
        exact ⟨(me_a (k := 89) v2 u1 rfl rfl).trans ((me_a (k := 89) u2 t1 rfl rfl).trans ((me_a (k := 89) t2 s1 rfl rfl).trans y1)), (me_b (k := 90) v2 u1 rfl rfl).trans ((me_b (k := 90) u2 t1 rfl rfl).trans ((me_b (k := 90) t2 s1 rfl rfl).trans y2))⟩
      · rw [me_b (k := 91) v2 u1 rfl rfl, me_b (k := 91) u2 t1 rfl rfl, t5 F hF' u hu, f81, t3]
      · have a0 := (cv_as_in _ _ (hF.2 F hF') a ha).1.1
        have ez : ((a.toNat : Nat) : Int) = a := Int.toNat_of_nonneg a0
        obtain ⟨y1, y2, -⟩ := x2 F hF' a (by rw [e.A]; exact ha)
        rw [e.l, e.p, ez] at y1 y2
        have E : sp_eq 70 (sps_k (GC hb) 70 j2) (sps_k (GC hb) 70 j) := x1.symm.trans s3
        have ho := (cv_OK hF F hF' _ (List.mem_map.mpr ⟨a, ha, rfl⟩)).1
        have z1 : sa_v (sps_k (GC hb) 70 j2) ((cv_l hb a).map (cv_p hb)) = sa_v (sps_k (GC hb) 70 j) ((cv_l hb a).map (cv_p hb)) := sE_av E.v _ ho
        have z2 : sa_s (sps_k (GC hb) 70 j2) ((cv_l hb a).map (cv_p hb)) = sa_s (sps_k (GC hb) 70 j) ((cv_l hb a).map (cv_p hb)) := tb_ext (fun b => sE_as (E.s b) _ ho)
        rw [me_b (k := 88) v2 u1 rfl rfl, u3 F hF' a ha, f81]
        unfold dr_v
        rw [me_b (k := 85) t2 s1 rfl rfl, me_a (k := 84) t2 s1 rfl rfl, y1, y2, z1, z2]
      · have a0 := (cv_as_in _ _ (hF.2 F hF') a ha).1.1
        have ez : ((a.toNat : Nat) : Int) = a := Int.toNat_of_nonneg a0
        obtain ⟨-, -, y3⟩ := x2 F hF' a (by rw [e.A]; exact ha)
        rw [e.l, e.p, ez] at y3
        have E : sp_eq 70 (sps_k (GC hb) 70 j2) (sps_k (GC hb) 70 j) := x1.symm.trans s3
        have ho := cv_OK hF F hF' _ (List.mem_map.mpr ⟨a, ha, rfl⟩)
        have z3 := sE_ah (E.h 1000) _ ho.1 ho.2
        rw [me_a (k := 87) v2 u1 rfl rfl, me_a (k := 87) u2 t1 rfl rfl, me_a (k := 87) t2 s1 rfl rfl, y3]
        omega
    · intro c1 c2; exfalso; omega
    · intro c1 c2
      refine ⟨by omega, fun h1 s1 s2 s3 s4 => ?_⟩
      have T43 : ∀ h2, ab_Sh sx_sk h2 → (∀ i, mx_b h2 81 i = if i = zf.toNat then (if zf = 0 then 1 else 0) else mx_b h1 81 i) → ab_Fr [(10368, 10369)] h1 h2 → me_E (d + 7) 65 43 [some (.inr (.inr 78)), some (.inl zf)] [] h2 (wx_T hb U) := by
        intro h2 t1 t2 t3
        refine mt_wkB3 t1 of ?_ ?_ ?_
        · intro k1; exfalso; omega
        · intro k1 k2; exfalso; omega
        · intro k1 k2
          refine ⟨by omega, fun h3 u1 u2 u3 u4 => ih (zf + 1) h3 (by omega) (by omega) (by omega) u1 (((hFr.trans (s4.wide (fun c hc => ab_swr_ok (by decide) hc))).trans (t3.wide (fun c hc => ab_swr_ok (by decide) hc))).trans (u4.wide (fun c hc => ab_swr_ok (by decide) hc))) (fun i hi => ?_)⟩
          have a79 : mi_a h3 79 i = mi_a h1 79 i := (me_a (k := 79) u4 t1 rfl rfl).trans (me_a (k := 79) t3 s1 rfl rfl)
          have a80 : mx_b h3 80 i = mx_b h1 80 i := (me_b (k := 80) u4 t1 rfl rfl).trans (me_b (k := 80) t3 s1 rfl rfl)
          have a81 : mx_b h3 81 i = mx_b h2 81 i := me_b (k := 81) u4 t1 rfl rfl
          have b81 : mx_b h1 81 i = mx_b h 81 i := me_b (k := 81) s4 hS rfl rfl
          have b82 : mi_a h2 82 i = mi_a h 82 i := (me_a (k := 82) t3 s1 rfl rfl).trans (me_a (k := 82) s4 hS rfl rfl)
          have b83 : mi_a h2 83 i = mi_a h 83 i := (me_a (k := 83) t3 s1 rfl rfl).trans (me_a (k := 83) s4 hS rfl rfl)
          rw [a79, a80, a81, s2, s3, t2, u2, u3, b81, b82, b83]
          by_cases ci : i = zf.toNat
          · rw [if_pos ci, if_pos ci, if_pos ci, if_pos ci, if_pos ci]
            refine ⟨rfl, rfl, rfl, rfl, ?_⟩
            by_cases z : zf = 0
            · rw [if_pos z, if_pos (by omega)]
            · rw [if_neg z, if_neg (by omega)]
          · rw [if_neg ci, if_neg ci, if_neg ci, if_neg ci, if_neg ci]
            exact hv i (by omega)
      refine mt_wkB2 s1 of ?_ ?_ ?_ ?_ ?_ ?_
      · intro k1 k2; exfalso; omega
      · intro k1 k2 k3; exfalso; omega
      · intro k1 k2 k3
        refine ⟨by omega, fun h2 t1 t2 t3 => T43 h2 t1 (fun i => ?_) t3⟩
        rw [t2 i, if_neg k1]
        all_goals rfl
      · intro k1 k2; exfalso; omega
      · intro k1 k2 k3; exfalso; omega
      · intro k1 k2 k3
        refine ⟨by omega, fun h2 t1 t2 t3 => T43 h2 t1 (fun i => ?_) t3⟩
        rw [t2 i, if_pos k1]
        all_goals rfl
theorem me_setsWorkX (hSb : ab_Sh sx_sk hb) (hF : cv_F hb U) (hD : cv_D hb) (hE : cv_E hb) (hTP : tc_P hb U) : me_E (d + 7) 65 0 [some (.inr (.inr 78)), none] [] hb (wx_T hb U) := by
  refine mt_wkA hSb (fun h1 g1 g2 => ?_)
  have e0 := me_nil g2
  subst e0
  exact wx_loop hSb hF hD hE hTP 71 0 h1 (by decide) (by decide) (by decide) hSb ab_Fr.refl (fun i hi => by omega)
end WRX
/-! the class's Checks: the least of what is found -/
/-- v is the least of S, 0 if there is none -/
def lo_S (S : Int → Prop) (v : Int) : Prop := (v = 0 ∧ ∀ x, ¬ S x) ∨ (S v ∧ ∀ x, S x → v ≤ x)
theorem lo_u {S : Int → Prop} {v v' : Int} (hp : ∀ x, S x → 0 < x) (h : lo_S S v) (h' : lo_S S v') : v = v' := by
  rcases h with ⟨a, b⟩ | ⟨a, b⟩ <;> rcases h' with ⟨a', b'⟩ | ⟨a', b'⟩
  · omega
  · exact absurd a' (b v')
  · exact absurd a (b' v)
  · have := b v' a'
    have := b' v a
    omega
theorem lo_cg {S T : Int → Prop} {v : Int} (h : lo_S S v) (e : ∀ x, S x ↔ T x) : lo_S T v := by
  rcases h with ⟨a, b⟩ | ⟨a, b⟩
  · exact Or.inl ⟨a, fun x hx => b x ((e x).mpr hx)⟩
  · exact Or.inr ⟨(e v).mp a, fun x hx => b x ((e x).mpr hx)⟩
theorem lo_add {S : Int → Prop} {v y v' : Int} (hp : ∀ x, S x → 0 < x) (h : lo_S S v) (e : (v = 0 ∨ y < v) ∧ v' = y ∨ (v ≠ 0 ∧ v ≤ y) ∧ v' = v) : lo_S (fun x => S x ∨ x = y) v' := by
  rcases h with ⟨a, b⟩ | ⟨a, b⟩
  · rcases e with ⟨-, rfl⟩ | ⟨⟨c, -⟩, -⟩
    · exact Or.inr ⟨Or.inr rfl, fun x hx => hx.elim (fun q => absurd q (b x)) (fun q => by omega)⟩
    · exact absurd a c
  · have := hp v a
    rcases e with ⟨c, rfl⟩ | ⟨⟨c, c'⟩, rfl⟩
    · exact Or.inr ⟨Or.inr rfl, fun x hx => hx.elim (fun q => by have := b x q; omega) (fun q => by omega)⟩
    · exact Or.inr ⟨Or.inl a, fun x hx => hx.elim (fun q => b x q) (fun q => by omega)⟩
def bm_W : List (Nat × Nat) := [(11906, 11907)]
section BLM
variable {d : Nat} {h : sm_H} {S : Int → Prop}
theorem me_blamec {zk zp : Int} (hS : ab_Sh sx_sk h) (k0 : 0 ≤ zk) (k1 : zk ≤ 16) (p0 : 0 ≤ zp) (p1 : zp ≤ 1000) (hp : ∀ x, S x → 0 < x) (hl : lo_S S (mi_f h 11906)) : me_E (d + 1) 84 0 [some (.inr (.inr 93)), some (.inl zk), some (.inl zp), none] [] h (fun w h' => w = none ∧ ab_Sh sx_sk h' ∧ ab_Fr bm_W h h' ∧ lo_S (fun x => S x ∨ x = zk + 16 * zp) (mi_f h' 11906)) := by
  refine mt_ybmA hS ⟨by omega, by omega⟩ ⟨by omega, by omega⟩ (fun _ c => ⟨by omega, fun h1 s1 s2 s3 => ⟨rfl, s1, s3, lo_add hp hl (Or.inl ⟨Or.inl c, s2⟩)⟩⟩) (fun _ c c2 => ⟨by omega, fun h1 s1 s2 => ?_⟩) (fun _ c c2 => ⟨by omega, fun h1 s1 s2 s3 => ⟨rfl, s1, s3, lo_add hp hl (Or.inl ⟨Or.inr c2, s2⟩)⟩⟩)
  have e0 := me_nil s2
  subst e0
  exact ⟨rfl, s1, ab_Fr.refl, lo_add hp hl (Or.inr ⟨⟨c, c2⟩, rfl⟩)⟩
/-- a rule's candidates -/
def k_bit (b r : Int) : Prop := (Int32.ofInt (Int32.ofInt b >>> (Int32.ofInt r &&& 31)).toInt &&& Int32.ofInt 1).toInt ≠ 0
def k_5 (h : sm_H) (n x : Int) : Prop := ∃ r : Nat, (r : Int) < n ∧ k_bit (mi_a h 83 r) r ∧ x = 5 + 16 * mi_a h 62 r
def k_6 (h : sm_H) (n x : Int) : Prop := ∃ r : Nat, (r : Int) < n ∧ 1000 ≤ mi_a h 82 r ∧ x = 6 + 16 * mi_a h 62 r
theorem k5_s {n x : Int} (n0 : 0 ≤ n) : k_5 h (n + 1) x ↔ k_5 h n x ∨ (k_bit (mi_a h 83 n.toNat) n ∧ x = 5 + 16 * mi_a h 62 n.toNat) := by
  have ez : ((n.toNat : Nat) : Int) = n := Int.toNat_of_nonneg n0
  constructor
  · rintro ⟨r, r1, r2, r3⟩
    by_cases c : (r : Int) < n
    · exact Or.inl ⟨r, c, r2, r3⟩
    · have e : r = n.toNat := by omega
      subst e
      rw [ez] at r2
      exact Or.inr ⟨r2, r3⟩
  · rintro (⟨r, r1, r2, r3⟩ | ⟨r2, r3⟩)
    · exact ⟨r, by omega, r2, r3⟩
    · exact ⟨n.toNat, by omega, by rw [ez]; exact r2, r3⟩
theorem k6_s {n x : Int} (n0 : 0 ≤ n) : k_6 h (n + 1) x ↔ k_6 h n x ∨ (1000 ≤ mi_a h 82 n.toNat ∧ x = 6 + 16 * mi_a h 62 n.toNat) := by
  constructor
  · rintro ⟨r, r1, r2, r3⟩
    by_cases c : (r : Int) < n
    · exact Or.inl ⟨r, c, r2, r3⟩
    · have e : r = n.toNat := by omega
      subst e
      exact Or.inr ⟨r2, r3⟩
  · rintro (⟨r, r1, r2, r3⟩ | ⟨r2, r3⟩)
    · exact ⟨r, by omega, r2, r3⟩
    · exact ⟨n.toNat, by omega, r2, r3⟩
theorem or_5 (A B C D E : Prop) : (((A ∨ B ∨ C) ∨ D) ∨ E) ↔ (A ∨ (B ∨ D) ∨ (C ∨ E)) := by
  constructor
  · rintro (((a | b | c) | d) | e)
    · exact Or.inl a
    · exact Or.inr (Or.inl (Or.inl b))
    · exact Or.inr (Or.inr (Or.inl c))
    · exact Or.inr (Or.inl (Or.inr d))
    · exact Or.inr (Or.inr (Or.inr e))
  · rintro (a | (b | d) | (c | e))
    · exact Or.inl (Or.inl (Or.inl a))
    · exact Or.inl (Or.inl (Or.inr (Or.inl b)))
    · exact Or.inl (Or.inr d)
    · exact Or.inl (Or.inl (Or.inr (Or.inr c)))
    · exact Or.inr e
theorem crx_loop {h0 : sm_H} (hS0 : ab_Sh sx_sk h0) (hp : ∀ x, S x → 0 < x) (n1 : mi_f h0 7680 ≤ 10) (hq : ∀ r : Nat, (r : Int) < mi_f h0 7680 → 0 ≤ mi_a h0 62 r ∧ mi_a h0 62 r ≤ 1000) : ∀ (N : Nat) (zr : Int) (q2 : Option mi_V) (h : sm_H), mi_f h0 7680 - zr < N → 0 ≤ zr → zr ≤ 10 → (zr = 0 ∨ zr ≤ mi_f h0 7680) → (∀ v, q2 = some v → mi_ok v) → ab_Sh sx_sk h → ab_Fr bm_W h0 h → lo_S (fun x => S x ∨ k_5 h0 zr x ∨ k_6 h0 zr x) (mi_f h 11906) → me_E (d + 3) 83 2 [some (.inr (.inr 93)), some (.inl zr), q2] [] h (fun w h' => w = none ∧ ab_Sh sx_sk h' ∧ ab_Fr bm_W h0 h' ∧ lo_S (fun x => S x ∨ k_5 h0 (mi_f h0 7680) x ∨ k_6 h0 (mi_f h0 7680) x) (mi_f h' 11906)) := by
  intro N
  induction N with
  | zero =>
    intro zr q2 h hN z0 z1 z2 o2 hS hF hl
    have e80 : mi_f h 7680 = mi_f h0 7680 := me_f (c := 7680) hF hS0 rfl rfl
    refine mt_ycrB hS ⟨by omega, by omega⟩ o2 ?_ ?_ ?_ ?_ ?_ ?_ ?_ ?_ ?_ ?_ ?_
    · intro b c h1 g1 g2
      have e0 := me_nil g2
      subst e0
      refine ⟨rfl, hS, hF, lo_cg hl (fun x => ?_)⟩
      by_cases cz : zr = mi_f h0 7680
      · rw [cz]
      · have k : ∀ r : Nat, ¬ (r : Int) < zr := fun r => by omega
        have k' : ∀ r : Nat, ¬ (r : Int) < mi_f h0 7680 := fun r => by omega
        constructor
        · rintro (q | ⟨r, r1, -⟩ | ⟨r, r1, -⟩)
          · exact Or.inl q
          · exact absurd r1 (k r)
          · exact absurd r1 (k r)
        · rintro (q | ⟨r, r1, -⟩ | ⟨r, r1, -⟩)
          · exact Or.inl q
          · exact absurd r1 (k' r)
          · exact absurd r1 (k' r)
    all_goals intro b c; exfalso; omega
  | succ N ih =>
    intro zr q2 h hN z0 z1 z2 o2 hS hF hl
    have e80 : mi_f h 7680 = mi_f h0 7680 := me_f (c := 7680) hF hS0 rfl rfl
    have oz : mi_in zr := ⟨by omega, by omega⟩
    have e83 : mi_a h 83 zr.toNat = mi_a h0 83 zr.toNat := me_a (k := 83) hF hS0 rfl rfl
    have e62 : mi_a h 62 zr.toNat = mi_a h0 62 zr.toNat := me_a (k := 62) hF hS0 rfl rfl
    have hpos : ∀ n x, (∀ r : Nat, (r : Int) < n → (r : Int) < mi_f h0 7680) → (S x ∨ k_5 h0 n x ∨ k_6 h0 n x) → 0 < x := by
      intro n x hn hx
      rcases hx with q | ⟨r, r1, -, rfl⟩ | ⟨r, r1, -, rfl⟩
      · exact hp x q
      · have := (hq r (hn r r1)).1
        omega
      · have := (hq r (hn r r1)).1
        omega
    /- the height -/
    have T49 : ∀ h2, zr < mi_f h0 7680 → ab_Sh sx_sk h2 → ab_Fr bm_W h0 h2 → lo_S (fun x => (S x ∨ k_5 h0 zr x ∨ k_6 h0 zr x) ∨ (k_bit (mi_a h0 83 zr.toNat) zr ∧ x = 5 + 16 * mi_a h0 62 zr.toNat)) (mi_f h2 11906) → me_E (d + 3) 83 49 [some (.inr (.inr 93)), some (.inl zr), some (.inl (mi_a h 62 zr.toNat))] [] h2 (fun w h' => w = none ∧ ab_Sh sx_sk h' ∧ ab_Fr bm_W h0 h' ∧ lo_S (fun x => S x ∨ k_5 h0 (mi_f h0 7680) x ∨ k_6 h0 (mi_f h0 7680) x) (mi_f h' 11906)) := by
      intro h2 lt s1 s2 s3
      have b := hq zr.toNat (by omega)
      have op : mi_in (mi_a h 62 zr.toNat) := by rw [e62]; exact ⟨by omega, by omega⟩
      have e82 : mi_a h2 82 zr.toNat = mi_a h0 82 zr.toNat := me_a (k := 82) s2 hS0 rfl rfl
      have T67 : ∀ h3, ab_Sh sx_sk h3 → ab_Fr bm_W h0 h3 → lo_S (fun x => ((S x ∨ k_5 h0 zr x ∨ k_6 h0 zr x) ∨ (k_bit (mi_a h0 83 zr.toNat) zr ∧ x = 5 + 16 * mi_a h0 62 zr.toNat)) ∨ (1000 ≤ mi_a h0 82 zr.toNat ∧ x = 6 + 16 * mi_a h0 62 zr.toNat)) (mi_f h3 11906) → me_E (d + 3) 83 67 [some (.inr (.inr 93)), some (.inl zr), some (.inl (mi_a h 62 zr.toNat))] [] h3 (fun w h' => w = none ∧ ab_Sh sx_sk h' ∧ ab_Fr bm_W h0 h' ∧ lo_S (fun x => S x ∨ k_5 h0 (mi_f h0 7680) x ∨ k_6 h0 (mi_f h0 7680) x) (mi_f h' 11906)) := by
        intro h3 t1 t2 t3
        refine mt_ycrD t1 oz op ⟨by omega, fun h4 g1 g2 => ?_⟩
        have e0 := me_nil g2
        subst e0
        refine ih (zr + 1) _ h4 (by omega) (by omega) (by omega) (by omega) (me_oi op) t1 t2 (lo_cg t3 (fun x => ?_))
        rw [k5_s z0, k6_s z0]
        exact or_5 _ _ _ _ _
      refine mt_ycrC s1 oz op (fun c => by exfalso; omega) (fun c c2 => by exfalso; omega) (fun c c2 c3 => ⟨by omega, fun h3 g1 g2 => ?_⟩) (fun c c2 c3 => ⟨by omega, fun h3 g1 g2 => ?_⟩)
      · have e0 := me_nil g2
        subst e0
        rw [e82] at c3
        refine ⟨_, me_blamec (d := d + 1) (zk := 6) (zp := mi_a h 62 zr.toNat) s1 (by decide) (by decide) (by rw [e62]; exact b.1) (by rw [e62]; exact b.2) (fun x hx => ?_) s3, fun w h4 oww hr => ?_⟩
        · rcases hx with hx | ⟨-, rfl⟩
          · exact hpos zr x (fun r hr => by omega) hx
          · omega
        · obtain ⟨rfl, t1, t2, t3⟩ := hr
          refine T67 h4 t1 (s2.trans t2) (lo_cg t3 (fun x => ?_))
          rw [e62]
          exact ⟨fun q => q.imp id (fun y => ⟨c3, y⟩), fun q => q.imp id (fun y => y.2)⟩
      · have e0 := me_nil g2
        subst e0
        rw [e82] at c3
        exact T67 h3 s1 s2 (lo_cg s3 (fun x => ⟨Or.inl, fun q => q.elim id (fun y => absurd y.1 (by omega))⟩))
    have kb : ∀ b, ((Int32.ofInt (Int32.ofInt (mi_a h 83 zr.toNat) >>> (Int32.ofInt zr &&& 31)).toInt &&& Int32.ofInt 1).toInt = b) = ((Int32.ofInt (Int32.ofInt (mi_a h0 83 zr.toNat) >>> (Int32.ofInt zr &&& 31)).toInt &&& Int32.ofInt 1).toInt = b) := fun b => by rw [e83]
    refine mt_ycrB hS oz o2 ?_ (fun _ _ c => by exfalso; omega) (fun _ _ c => by exfalso; omega) (fun _ _ _ c => by exfalso; omega) (fun _ _ _ c => by exfalso; omega) (fun _ _ _ c => by exfalso; omega) (fun _ _ _ c => by exfalso; omega) (fun _ _ _ _ c => by exfalso; omega) (fun _ _ _ _ c => by exfalso; omega) (fun _ c c1 c2 c3 c4 => ⟨by omega, fun h1 g1 g2 => ?_⟩) (fun _ c c1 c2 c3 c4 => ⟨by omega, fun h1 g1 g2 => ?_⟩)
    · intro b c h1 g1 g2
      have e0 := me_nil g2
      subst e0
      refine ⟨rfl, hS, hF, lo_cg hl (fun x => ?_)⟩
      by_cases cz : zr = mi_f h0 7680
      · rw [cz]
      · have k : ∀ r : Nat, ¬ (r : Int) < zr := fun r => by omega
        have k' : ∀ r : Nat, ¬ (r : Int) < mi_f h0 7680 := fun r => by omega
        constructor
        · rintro (q | ⟨r, r1, -⟩ | ⟨r, r1, -⟩)
          · exact Or.inl q
          · exact absurd r1 (k r)
          · exact absurd r1 (k r)
        · rintro (q | ⟨r, r1, -⟩ | ⟨r, r1, -⟩)
          · exact Or.inl q
          · exact absurd r1 (k' r)
          · exact absurd r1 (k' r)
    · have e0 := me_nil g2
      subst e0
      rw [kb] at c4
      exact T49 h1 (by omega) hS hF (lo_cg hl (fun x => ⟨Or.inl, fun q => q.elim id (fun y => absurd c4 y.1)⟩))
    · have e0 := me_nil g2
      subst e0
      have b := hq zr.toNat (by omega)
      have c4 : k_bit (mi_a h0 83 zr.toNat) zr := fun q => c4 (by rw [kb]; exact q)
      refine ⟨_, me_blamec (d := d + 1) (zk := 5) (zp := mi_a h1 62 zr.toNat) hS (by decide) (by decide) (by rw [e62]; exact b.1) (by rw [e62]; exact b.2) (fun x hx => hpos zr x (fun r hr => by omega) hx) hl, fun w h4 oww hr => ?_⟩
      obtain ⟨rfl, t1, t2, t3⟩ := hr
      refine T49 h4 (by omega) t1 (hF.trans t2) (lo_cg t3 (fun x => ?_))
      rw [e62]
      exact ⟨fun q => q.imp id (fun y => ⟨c4, y⟩), fun q => q.imp id (fun y => y.2)⟩
end BLM
/-! the class's Checks: parts that are repeated -/
section RPT
variable {d : Nat} {h : sm_H} {S : Int → Prop}
def k_7 (h : sm_H) (n x : Int) : Prop := ∃ u : Nat, (u : Int) < n ∧ (mi_a h 72 u ≠ 0 ∧ mi_a h 89 u = 1) ∧ x = 7 + 16 * mi_a h 73 u
def k_9 (h : sm_H) (n x : Int) : Prop := ∃ u : Nat, (u : Int) < n ∧ (mi_a h 72 u ≠ 0 ∧ mx_b h 90 u &&& mx_b h 91 u ≠ 0) ∧ x = 9 + 16 * mi_a h 73 u
theorem k_step {P : Nat → Prop} {f : Nat → Int} {n x : Int} (n0 : 0 ≤ n) : (∃ u : Nat, (u : Int) < n + 1 ∧ P u ∧ x = f u) ↔ (∃ u : Nat, (u : Int) < n ∧ P u ∧ x = f u) ∨ (P n.toNat ∧ x = f n.toNat) := by
  constructor
  · rintro ⟨r, r1, r2, r3⟩
    by_cases c : (r : Int) < n
    · exact Or.inl ⟨r, c, r2, r3⟩
    · have e : r = n.toNat := by omega
      subst e
      exact Or.inr ⟨r2, r3⟩
  · rintro (⟨r, r1, r2, r3⟩ | ⟨r2, r3⟩)
    · exact ⟨r, by omega, r2, r3⟩
    · exact ⟨n.toNat, by omega, r2, r3⟩
theorem k7_s {n x : Int} (n0 : 0 ≤ n) : k_7 h (n + 1) x ↔ k_7 h n x ∨ ((mi_a h 72 n.toNat ≠ 0 ∧ mi_a h 89 n.toNat = 1) ∧ x = 7 + 16 * mi_a h 73 n.toNat) := k_step n0
theorem k9_s {n x : Int} (n0 : 0 ≤ n) : k_9 h (n + 1) x ↔ k_9 h n x ∨ ((mi_a h 72 n.toNat ≠ 0 ∧ mx_b h 90 n.toNat &&& mx_b h 91 n.toNat ≠ 0) ∧ x = 9 + 16 * mi_a h 73 n.toNat) := k_step n0
def cpx_Q (S : Int → Prop) (h0 : sm_H) (w : Option mi_V) (h' : sm_H) : Prop := w = none ∧ ab_Sh sx_sk h' ∧ ab_Fr bm_W h0 h' ∧ lo_S (fun x => S x ∨ k_7 h0 (mi_f h0 7690) x ∨ k_9 h0 (mi_f h0 7690) x) (mi_f h' 11906)
theorem cpx_loop {h0 : sm_H} (hS0 : ab_Sh sx_sk h0) (hp : ∀ x, S x → 0 < x) (n0 : 0 ≤ mi_f h0 7690) (n1 : mi_f h0 7690 ≤ 60) (hq : ∀ u : Nat, (u : Int) < mi_f h0 7690 → mi_a h0 72 u ≠ 0 → 0 ≤ mi_a h0 73 u ∧ mi_a h0 73 u ≤ 1000) : ∀ (N : Nat) (zu : Int) (q2 : Option mi_V) (h : sm_H), mi_f h0 7690 - zu < N → 0 ≤ zu → zu ≤ mi_f h0 7690 → (∀ v, q2 = some v → mi_ok v) → ab_Sh sx_sk h → ab_Fr bm_W h0 h → lo_S (fun x => S x ∨ k_7 h0 zu x ∨ k_9 h0 zu x) (mi_f h 11906) → me_E (d + 3) 86 2 [some (.inr (.inr 93)), some (.inl zu), q2] [] h (cpx_Q S h0) := by
  intro N
  induction N with
  | zero => intro zu q2 h hN z0 z1; exfalso; omega
  | succ N ih =>
    intro zu q2 h hN z0 z1 o2 hS hF hl
    have e90 : mi_f h 7690 = mi_f h0 7690 := me_f (c := 7690) hF hS0 rfl rfl
    have oz : mi_in zu := ⟨by omega, by omega⟩
    have e72 : mi_a h 72 zu.toNat = mi_a h0 72 zu.toNat := me_a (k := 72) hF hS0 rfl rfl
    have e73 : mi_a h 73 zu.toNat = mi_a h0 73 zu.toNat := me_a (k := 73) hF hS0 rfl rfl
    have e89 : mi_a h 89 zu.toNat = mi_a h0 89 zu.toNat := me_a (k := 89) hF hS0 rfl rfl
    have hpos : ∀ x, zu < mi_f h0 7690 → (S x ∨ k_7 h0 zu x ∨ k_9 h0 zu x) → 0 < x := by
      intro x hz hx
      rcases hx with q | ⟨r, r1, r2, rfl⟩ | ⟨r, r1, r2, rfl⟩
      · exact hp x q
      · have := (hq r (by omega) r2.1).1
        omega
      · have := (hq r (by omega) r2.1).1
        omega
    have T96 : ∀ h3 q2, zu < mi_f h0 7690 → (∀ v, q2 = some v → mi_ok v) → ab_Sh sx_sk h3 → ab_Fr bm_W h0 h3 → lo_S (fun x => ((S x ∨ k_7 h0 zu x ∨ k_9 h0 zu x) ∨ ((mi_a h0 72 zu.toNat ≠ 0 ∧ mi_a h0 89 zu.toNat = 1) ∧ x = 7 + 16 * mi_a h0 73 zu.toNat)) ∨ ((mi_a h0 72 zu.toNat ≠ 0 ∧ mx_b h0 90 zu.toNat &&& mx_b h0 91 zu.toNat ≠ 0) ∧ x = 9 + 16 * mi_a h0 73 zu.toNat)) (mi_f h3 11906) → me_E (d + 3) 86 96 [some (.inr (.inr 93)), some (.inl zu), q2] [] h3 (cpx_Q S h0) := by
      intro h3 q2 lt o2 t1 t2 t3
      refine mt_ycpD t1 oz o2 ⟨by omega, fun h4 g1 g2 => ?_⟩
      have e0 := me_nil g2
      subst e0
      refine ih (zu + 1) _ h4 (by omega) (by omega) (by omega) o2 t1 t2 (lo_cg t3 (fun x => ?_))
      rw [k7_s z0, k9_s z0]
      exact or_5 _ _ _ _ _
    have T61 : ∀ h2, zu < mi_f h0 7690 → mi_a h0 72 zu.toNat ≠ 0 → ab_Sh sx_sk h2 → ab_Fr bm_W h0 h2 → lo_S (fun x => (S x ∨ k_7 h0 zu x ∨ k_9 h0 zu x) ∨ ((mi_a h0 72 zu.toNat ≠ 0 ∧ mi_a h0 89 zu.toNat = 1) ∧ x = 7 + 16 * mi_a h0 73 zu.toNat)) (mi_f h2 11906) → me_E (d + 3) 86 61 [some (.inr (.inr 93)), some (.inl zu), some (.inl (mi_a h 73 zu.toNat))] [] h2 (cpx_Q S h0) := by
      intro h2 lt w0 s1 s2 s3
      have b := hq zu.toNat (by omega) w0
      have op : mi_in (mi_a h 73 zu.toNat) := by rw [e73]; exact ⟨by omega, by omega⟩
      have f90 : mx_b h2 90 zu.toNat = mx_b h0 90 zu.toNat := me_b (k := 90) s2 hS0 rfl rfl
      have f91 : mx_b h2 91 zu.toNat = mx_b h0 91 zu.toNat := me_b (k := 91) s2 hS0 rfl rfl
      refine mt_ycpC s1 oz op (fun c => by exfalso; omega) (fun c => by exfalso; omega) (fun c c2 => by exfalso; omega) (fun c c2 => by exfalso; omega) (fun c c2 c3 => ⟨by omega, fun h3 g1 g2 => ?_⟩) (fun c c2 c3 => ⟨by omega, fun h3 g1 g2 => ?_⟩)
      · have e0 := me_nil g2
        subst e0
        have c3 := lg_eq.mp c3
        rw [f90, f91] at c3
        exact T96 h3 _ lt (me_oi op) s1 s2 (lo_cg s3 (fun x => ⟨Or.inl, fun q => q.elim id (fun y => absurd c3 y.1.2)⟩))
      · have e0 := me_nil g2
        subst e0
        have c3 : mx_b h0 90 zu.toNat &&& mx_b h0 91 zu.toNat ≠ 0 := fun q => c3 (lg_eq.mpr (by rw [f90, f91]; exact q))
        refine ⟨_, me_blamec (d := d + 1) (zk := 9) (zp := mi_a h 73 zu.toNat) s1 (by decide) (by decide) (by rw [e73]; exact b.1) (by rw [e73]; exact b.2) (fun x hx => ?_) s3, fun w h4 oww hr => ?_⟩
        · rcases hx with hx | ⟨-, rfl⟩
          · exact hpos x lt hx
          · omega
        · obtain ⟨rfl, t1, t2, t3⟩ := hr
          refine T96 h4 _ lt (me_oi op) t1 (s2.trans t2) (lo_cg t3 (fun x => ?_))
          rw [e73]
          exact ⟨fun q => q.imp id (fun y => ⟨⟨w0, c3⟩, y⟩), fun q => q.imp id (fun y => y.2)⟩
    refine mt_ycpB hS oz o2 (fun _ c h1 g1 g2 => ?_) (fun _ _ c => by exfalso; omega) (fun _ _ _ c => by exfalso; omega) (fun _ c c1 c2 c3 => ⟨by omega, fun h1 g1 g2 => ?_⟩) (fun _ c c1 c2 c3 c4 => ⟨by omega, fun h1 g1 g2 => ?_⟩) (fun _ c c1 c2 c3 c4 => ⟨by omega, fun h1 g1 g2 => ?_⟩)
    · have e0 := me_nil g2
      subst e0
      have ez : zu = mi_f h0 7690 := by omega
      rw [ez] at hl
      exact ⟨rfl, hS, hF, hl⟩
    · have e0 := me_nil g2
      subst e0
      rw [e72] at c3
      exact T96 h1 _ (by omega) o2 hS hF (lo_cg hl (fun x => ⟨fun q => Or.inl (Or.inl q), fun q => q.elim (fun q => q.elim id (fun y => absurd c3 y.1.1)) (fun y => absurd c3 y.1.1)⟩))
    · have e0 := me_nil g2
      subst e0
      rw [e72] at c3
      rw [e89] at c4
      exact T61 h1 (by omega) c3 hS hF (lo_cg hl (fun x => ⟨Or.inl, fun q => q.elim id (fun y => absurd y.1.2 c4)⟩))
    · have e0 := me_nil g2
      subst e0
      rw [e72] at c3
      rw [e89] at c4
      have b := hq zu.toNat (by omega) c3
      refine ⟨_, me_blamec (d := d + 1) (zk := 7) (zp := mi_a h1 73 zu.toNat) hS (by decide) (by decide) (by rw [e73]; exact b.1) (by rw [e73]; exact b.2) (fun x hx => hpos x (by omega) hx) hl, fun w h4 oww hr => ?_⟩
      obtain ⟨rfl, t1, t2, t3⟩ := hr
      refine T61 h4 (by omega) c3 t1 (hF.trans t2) (lo_cg t3 (fun x => ?_))
      rw [e73]
      exact ⟨fun q => q.imp id (fun y => ⟨⟨c3, c4⟩, y⟩), fun q => q.imp id (fun y => y.2)⟩
theorem me_checkRepeats {h0 : sm_H} (hS0 : ab_Sh sx_sk h0) (hp : ∀ x, S x → 0 < x) (n0 : 0 ≤ mi_f h0 7690) (n1 : mi_f h0 7690 ≤ 60) (hq : ∀ u : Nat, (u : Int) < mi_f h0 7690 → mi_a h0 72 u ≠ 0 → 0 ≤ mi_a h0 73 u ∧ mi_a h0 73 u ≤ 1000) (hl : lo_S S (mi_f h0 11906)) : me_E (d + 3) 86 0 [some (.inr (.inr 93)), none, none] [] h0 (cpx_Q S h0) := by
  refine mt_ycpA hS0 (fun h1 g1 g2 => ?_)
  have e0 := me_nil g2
  subst e0
  refine cpx_loop hS0 hp n0 n1 hq 61 0 none h1 (by omega) (by decide) n0 me_on hS0 ab_Fr.refl (lo_cg hl (fun x => ⟨Or.inl, fun q => q.elim id (fun q => q.elim (fun ⟨r, r1, _⟩ => by omega) (fun ⟨r, r1, _⟩ => by omega))⟩))
theorem me_checkRules {h0 : sm_H} (hS0 : ab_Sh sx_sk h0) (hp : ∀ x, S x → 0 < x) (n1 : mi_f h0 7680 ≤ 10) (hq : ∀ r : Nat, (r : Int) < mi_f h0 7680 → 0 ≤ mi_a h0 62 r ∧ mi_a h0 62 r ≤ 1000) (hl : lo_S S (mi_f h0 11906)) : me_E (d + 3) 83 0 [some (.inr (.inr 93)), none, none] [] h0 (fun w h' => w = none ∧ ab_Sh sx_sk h' ∧ ab_Fr bm_W h0 h' ∧ lo_S (fun x => S x ∨ k_5 h0 (mi_f h0 7680) x ∨ k_6 h0 (mi_f h0 7680) x) (mi_f h' 11906)) := by
  refine mt_ycrA hS0 (fun h1 g1 g2 => ?_)
  have e0 := me_nil g2
  subst e0
  refine crx_loop hS0 hp n1 hq 11 0 none h1 (by omega) (by decide) (by decide) (Or.inl rfl) me_on hS0 ab_Fr.refl (lo_cg hl (fun x => ⟨Or.inl, fun q => q.elim id (fun q => q.elim (fun ⟨r, r1, _⟩ => by omega) (fun ⟨r, r1, _⟩ => by omega))⟩))
end RPT
/-! the class's Checks: choices; the first fault -/
def k8l (dir : Nat → Int64) (pl : Nat → Int) : List Int → Int64 → Int → Prop
  | [], _, _ => False
  | a :: r, b, x => ((dir a.toNat &&& b ≠ 0) ∧ x = 8 + 16 * pl a.toNat) ∨ k8l dir pl r (b ||| dir a.toNat) x
def ccx_Q (S : Int → Prop) (h0 : sm_H) (l : List Int) (b : Int64) (w : Option mi_V) (h' : sm_H) : Prop := w = none ∧ ab_Sh sx_sk h' ∧ ab_Fr bm_W h0 h' ∧ lo_S (fun x => S x ∨ k8l (mx_b h0 88) (mi_a h0 67) l b x) (mi_f h' 11906)
section CCX
variable {d : Nat} {hb h0 : sm_H} {U : Int}
theorem ccx_loop {F : Nat} (hS0 : ab_Sh sx_sk h0) (e : cv_eq hb h0) (hF70 : F < 70) : ∀ (m : Nat) (za zn : Int) (zb : Int64) (q6 q7 : Option mi_V) (h : sm_H) (S : Int → Prop), (m : Int) + zn = cv_n hb F → 0 ≤ zn → mi_in za → (∀ v, q6 = some v → mi_ok v) → (∀ v, q7 = some v → mi_ok v) → cv_al hb U m za → (∀ x, S x → 0 < x) → (∀ x, k8l (mx_b h0 88) (mi_a h0 67) (cv_as hb m za) zb x → 8 ≤ x ∧ x ≤ 16008) → ab_Sh sx_sk h → ab_Fr bm_W h0 h → lo_S S (mi_f h 11906) → me_E (d + 3) 87 18 [some (.inr (.inr 93)), some (.inl (F : Int)), some (.inr (.inl zb)), none, some (.inl za), some (.inl zn), q6, q7] [] h (ccx_Q S h0 (cv_as hb m za) zb) := by
  have cn : cv_n hb F ≤ 6 := by unfold cv_n; omega
  have of : mi_in (F : Int) := ⟨by omega, by omega⟩
  have eF : ((F : Int)).toNat = F := rfl
  intro m
  induction m with
  | zero =>
    intro za zn zb q6 q7 h S hN k0 oa o6 o7 hal hp hx hS hF hl
    have on : mi_in zn := ⟨by omega, by omega⟩
    have e64 : mi_a h 64 F = mi_a hb 64 F := by rw [me_a (k := 64) hF hS0 rfl rfl, e.2.1]
    have fin : ∀ h1, ab_Fr [] h h1 → ccx_Q S h0 [] zb none h1 := fun h1 g2 => by
      have e0 := me_nil g2
      subst e0
      exact ⟨rfl, hS, hF, lo_cg hl (fun x => ⟨Or.inl, fun q => q.elim id (fun y => y.elim)⟩)⟩
    refine mt_yccB hS of oa on o6 o7 ?_ ?_ ?_ ?_ ?_ ?_ ?_ ?_ ?_ ?_ ?_ ?_ ?_ ?_ ?_
    · intro c; exfalso; omega
    · intro c; exfalso; omega
    · intro c; exfalso; omega
    · intro c; exfalso; omega
    · intro c; exfalso; omega
    · intro c c2; exfalso; omega
    · intro c c2; exfalso; omega
    · intro c c2; exfalso; omega
    · intro c c2; exfalso; omega
    · intro c c2; exfalso; omega
    · intro c c2 c3; exact ⟨by omega, fun h1 g1 g2 => fin h1 g2⟩
    · intro c c2 c3 c4; exact ⟨by omega, fun h1 g1 g2 => fin h1 g2⟩
    · intro c c2 c3 c4; exfalso; rw [eF, e64] at c3; unfold cv_n at hN; omega
    · intro c c2 c3 c4; exfalso; rw [eF, e64] at c3; unfold cv_n at hN; omega
    · intro c c2 c3 c4; exfalso; rw [eF, e64] at c3; unfold cv_n at hN; omega
  | succ m ih =>
    intro za zn zb q6 q7 h S hN k0 oa o6 o7 hal hp hx hS hF hl
    have on : mi_in zn := ⟨by omega, by omega⟩
    obtain ⟨⟨a0, a1⟩, -, hal'⟩ := hal
    have e64 : mi_a h 64 F = mi_a hb 64 F := by rw [me_a (k := 64) hF hS0 rfl rfl, e.2.1]
    have lt : zn < mi_a hb 64 F := by unfold cv_n at hN; omega
    have e88 : mx_b h 88 za.toNat = mx_b h0 88 za.toNat := me_b (k := 88) hF hS0 rfl rfl
    have el : cv_as hb (m + 1) za = za :: cv_as hb m (mi_a hb 66 za.toNat) := rfl
    rw [el] at hx ⊢
    /- the next one -/
    have T82 : ∀ (h2 : sm_H) (S' : Int → Prop), (∀ x, S' x → 0 < x) → ab_Sh sx_sk h2 → ab_Fr bm_W h0 h2 → lo_S S' (mi_f h2 11906) → (∀ x, S' x ↔ (S x ∨ ((mx_b h0 88 za.toNat &&& zb ≠ 0) ∧ x = 8 + 16 * mi_a h0 67 za.toNat))) → me_E (d + 3) 87 82 [some (.inr (.inr 93)), some (.inl (F : Int)), some (.inr (.inl zb)), none, some (.inl za), some (.inl zn), some (.inr (.inl (mx_b h0 88 za.toNat))), none] [] h2 (ccx_Q S h0 (za :: cv_as hb m (mi_a hb 66 za.toNat)) zb) := by
      intro h2 S' p' s1 s2 s3 s4
      refine mt_yccD s1 of oa on (fun c => by exfalso; omega) (fun c c2 => by exfalso; omega) (fun c c2 => ⟨by omega, fun h3 g1 g2 => ?_⟩)
      have e0 := me_nil g2
      subst e0
      have e66 : mi_a h3 66 za.toNat = mi_a hb 66 za.toNat := by rw [me_a (k := 66) s2 hS0 rfl rfl, e.2.2.2.1]
      rw [e66]
      refine (ih _ (zn + 1) _ _ _ h3 S' (by omega) (by omega) (mi_inT _) (fun v q => by cases q; trivial) me_on hal' p' (fun x q => hx x (Or.inr q)) s1 s2 s3).imp (fun w h' hq => ?_)
      obtain ⟨r1, r2, r3, r4⟩ := hq
      refine ⟨r1, r2, r3, lo_cg r4 (fun x => ?_)⟩
      rw [s4]
      constructor
      · rintro ((q | q) | q)
        · exact Or.inl q
        · exact Or.inr (Or.inl q)
        · exact Or.inr (Or.inr q)
      · rintro (q | q | q)
        · exact Or.inl (Or.inl q)
        · exact Or.inl (Or.inr q)
        · exact Or.inr q
    have T55 : ∀ h1, ab_Fr [] h h1 → me_E (d + 3) 87 55 [some (.inr (.inr 93)), some (.inl (F : Int)), some (.inr (.inl zb)), none, some (.inl za), some (.inl zn), some (.inr (.inl (mx_b h 88 (Int.toNat za)))), none] [] h1 (ccx_Q S h0 (za :: cv_as hb m (mi_a hb 66 za.toNat)) zb) := fun h1 g2 => by
      have e0 := me_nil g2
      subst e0
      rw [e88]
      refine mt_yccC hS of oa on (fun c h2 g1 g2 => ?_) (fun c c2 => by exfalso; omega) (fun c c2 c3 => by exfalso; omega) (fun c c2 c3 => ⟨by omega, fun h2 g1 g2 => ?_⟩)
      · have e0 := me_nil g2
        subst e0
        have c := lg_eq.mp c
        exact T82 h2 S hp hS hF hl (fun x => ⟨Or.inl, fun q => q.elim id (fun y => absurd c y.1)⟩)
      · have e0 := me_nil g2
        subst e0
        have c : mx_b h0 88 za.toNat &&& zb ≠ 0 := fun q => c (lg_eq.mpr q)
        have e67 : mi_a h2 67 za.toNat = mi_a h0 67 za.toNat := me_a (k := 67) hF hS0 rfl rfl
        have b := hx (8 + 16 * mi_a h0 67 za.toNat) (Or.inl ⟨c, rfl⟩)
        refine ⟨_, me_blamec (d := d + 1) (zk := 8) (zp := mi_a h2 67 za.toNat) hS (by decide) (by decide) (by rw [e67]; omega) (by rw [e67]; omega) hp hl, fun w h4 oww hr => ?_⟩
        obtain ⟨rfl, t1, t2, t3⟩ := hr
        refine T82 h4 _ (fun x q => ?_) t1 (hF.trans t2) t3 (fun x => ?_)
        · rcases q with q | q
          · exact hp x q
          · rw [e67] at q; omega
        · rw [e67]
          exact ⟨fun q => q.imp id (fun y => ⟨c, y⟩), fun q => q.imp id (fun y => y.2)⟩
    refine mt_yccB hS of oa on o6 o7 ?_ ?_ ?_ ?_ ?_ ?_ ?_ ?_ ?_ ?_ ?_ ?_ ?_ ?_ ?_
    · intro c; exfalso; omega
    · intro c; exfalso; omega
    · intro c; exfalso; omega
    · intro c; exfalso; omega
    · intro c; exfalso; omega
    · intro c c2; exfalso; omega
    · intro c c2; exfalso; omega
    · intro c c2; exfalso; omega
    · intro c c2; exfalso; omega
    · intro c c2; exfalso; omega
    · intro c c2 c3; exfalso; rw [eF, e64] at c3; omega
    · intro c c2 c3 c4; exfalso; omega
    · intro c c2 c3 c4 c5; exfalso; omega
    · intro c c2 c3 c4 c5 c6; exfalso; omega
    · intro c c2 c3 c4 c5 c6; exact ⟨by omega, fun h1 g1 g2 => T55 h1 g2⟩
/-- all candidates -/
def k_8 (hb h : sm_H) (n : Nat) (x : Int) : Prop := ∃ F : Nat, F < n ∧ k8l (mx_b h 88) (mi_a h 67) (cv_A hb F) 0 x
def k_all (hb h : sm_H) (x : Int) : Prop := ((k_5 h (mi_f h 7680) x ∨ k_6 h (mi_f h 7680) x) ∨ k_7 h (mi_f h 7690) x ∨ k_9 h (mi_f h 7690) x) ∨ k_8 hb h 70 x
/-- the places are places -/
def k_pl (hb h : sm_H) : Prop := (0 ≤ mi_f h 7680 ∧ mi_f h 7680 ≤ 10) ∧ (0 ≤ mi_f h 7690 ∧ mi_f h 7690 ≤ 60) ∧ (∀ r : Nat, (r : Int) < mi_f h 7680 → 0 ≤ mi_a h 62 r ∧ mi_a h 62 r ≤ 1000) ∧ (∀ u : Nat, (u : Int) < mi_f h 7690 → mi_a h 72 u ≠ 0 → 0 ≤ mi_a h 73 u ∧ mi_a h 73 u ≤ 1000) ∧ ∀ x, k_8 hb h 70 x → 8 ≤ x ∧ x ≤ 16008
theorem ff_forms (hS0 : ab_Sh sx_sk h0) (e : cv_eq hb h0) (hF : cv_F hb U) (hK : ∀ x, k_8 hb h0 70 x → 8 ≤ x ∧ x ≤ 16008) {S : Int → Prop} (hp : ∀ x, S x → 0 < x) : ∀ (c F : Nat) (h : sm_H), F + c = 70 → ab_Sh sx_sk h → ab_Fr bm_W h0 h → lo_S (fun x => S x ∨ k_8 hb h0 F x) (mi_f h 11906) → me_E (d + 4) 82 15 [some (.inr (.inr 93)), some (.inl (F : Int))] [] h (fun w h' => ab_Sh sx_sk h' ∧ ab_Fr bm_W h0 h' ∧ ∃ z, w = some (.inl z) ∧ lo_S (fun x => S x ∨ k_8 hb h0 70 x) z) := by
  intro c
  induction c with
  | zero =>
    intro F h hc hS hFr hl
    have eF : F = 70 := by omega
    rw [eF] at hl ⊢
    refine mt_yffD hS ⟨by decide, by decide⟩ (fun c h1 g1 g2 => ?_) (fun c => by exfalso; omega)
    have e0 := me_nil g2
    subst e0
    exact ⟨hS, hFr, _, rfl, hl⟩
  | succ c ih =>
    intro F h hc hS hFr hl
    have of : mi_in (F : Int) := ⟨by omega, by omega⟩
    refine mt_yffD hS of (fun c => by exfalso; omega) (fun c h1 g1 g2 => ?_)
    have e0 := me_nil g2
    subst e0
    have hp' : ∀ x, (S x ∨ k_8 hb h0 F x) → 0 < x := fun x q => by
      rcases q with q | ⟨F', f1, f2⟩
      · exact hp x q
      · have := hK x ⟨F', by omega, f2⟩
        omega
    have CC : me_E (d + 3) 87 0 [some (.inr (.inr 93)), some (.inl (F : Int)), none, none, none, none, none, none] [] h1 (ccx_Q (fun x => S x ∨ k_8 hb h0 F x) h0 (cv_A hb F) 0) := by
      refine mt_yccA hS of (fun c => by exfalso; omega) (fun c c2 => by exfalso; omega) (fun c c2 => ⟨by omega, fun h2 g1 g2 => ?_⟩)
      have e0 := me_nil g2
      subst e0
      have e63 : mi_a h2 63 ((F : Int)).toNat = mi_a hb 63 F := by
        show mi_a h2 63 F = _
        rw [me_a (k := 63) hFr hS0 rfl rfl, e.1]
      rw [e63]
      exact ccx_loop (F := F) hS0 e (by omega) (cv_n hb F) _ 0 _ none none h2 _ (by omega) (by decide) (mi_inT _) me_on me_on (hF.2 F (by omega)) hp' (fun x q => hK x ⟨F, by omega, q⟩) hS hFr hl
    refine ⟨_, CC, fun w h2 oww hq => ?_⟩
    obtain ⟨rfl, r2, r3, r4⟩ := hq
    refine mt_yffE r2 of ⟨by omega, fun h3 g1 g2 => ?_⟩
    have e0 := me_nil g2
    subst e0
    have ek : (F : Int) + 1 = ((F + 1 : Nat) : Int) := by omega
    rw [ek]
    refine ih (F + 1) h3 (by omega) r2 r3 (lo_cg r4 (fun x => ?_))
    constructor
    · rintro ((q | ⟨F', f1, f2⟩) | q)
      · exact Or.inl q
      · exact Or.inr ⟨F', by omega, f2⟩
      · exact Or.inr ⟨F, by omega, q⟩
    · rintro (q | ⟨F', f1, f2⟩)
      · exact Or.inl (Or.inl q)
      · by_cases c : F' = F
        · rw [c] at f2; exact Or.inr f2
        · exact Or.inl (Or.inr ⟨F', by omega, f2⟩)
end CCX
/-! the class's firstFault: the least of all candidates -/
section FFX
variable {d : Nat} {hb h h' : sm_H} {U : Int}
theorem k_eq (hF : ab_Fr bm_W h h') (hS : ab_Sh sx_sk h) : (mi_f h' 7680 = mi_f h 7680 ∧ mi_f h' 7690 = mi_f h 7690) ∧ k_5 h' = k_5 h ∧ k_6 h' = k_6 h ∧ k_7 h' = k_7 h ∧ k_9 h' = k_9 h ∧ k_8 hb h' = k_8 hb h ∧ (mi_a h' 62 = mi_a h 62 ∧ mi_a h' 72 = mi_a h 72 ∧ mi_a h' 73 = mi_a h 73) := by
  have a62 : mi_a h' 62 = mi_a h 62 := funext fun i => me_a (k := 62) hF hS rfl rfl
  have a67 : mi_a h' 67 = mi_a h 67 := funext fun i => me_a (k := 67) hF hS rfl rfl
  have a72 : mi_a h' 72 = mi_a h 72 := funext fun i => me_a (k := 72) hF hS rfl rfl
  have a73 : mi_a h' 73 = mi_a h 73 := funext fun i => me_a (k := 73) hF hS rfl rfl
  have a82 : mi_a h' 82 = mi_a h 82 := funext fun i => me_a (k := 82) hF hS rfl rfl
  have a83 : mi_a h' 83 = mi_a h 83 := funext fun i => me_a (k := 83) hF hS rfl rfl
  have a89 : mi_a h' 89 = mi_a h 89 := funext fun i => me_a (k := 89) hF hS rfl rfl
  have b88 : mx_b h' 88 = mx_b h 88 := funext fun i => me_b (k := 88) hF hS rfl rfl
  have b90 : mx_b h' 90 = mx_b h 90 := funext fun i => me_b (k := 90) hF hS rfl rfl
  have b91 : mx_b h' 91 = mx_b h 91 := funext fun i => me_b (k := 91) hF hS rfl rfl
  refine ⟨⟨me_f (c := 7680) hF hS rfl rfl, me_f (c := 7690) hF hS rfl rfl⟩, ?_, ?_, ?_, ?_, ?_, a62, a72, a73⟩
  · unfold k_5; rw [a83, a62]
  · unfold k_6; rw [a82, a62]
  · unfold k_7; rw [a72, a89, a73]
  · unfold k_9; rw [a72, b90, b91, a73]
  · unfold k_8; rw [b88, a67]
theorem me_firstFault (hS : ab_Sh sx_sk h) (hF : cv_F hb U) (e : cv_eq hb h) (hP : k_pl hb h) : me_E (d + 4) 82 0 [some (.inr (.inr 93)), none] [] h (fun w h' => ab_Sh sx_sk h' ∧ ab_Fr bm_W h h' ∧ ∃ z, w = some (.inl z) ∧ lo_S (k_all hb h) z) := by
  obtain ⟨⟨n0, n1⟩, ⟨m0, m1⟩, p1, p2, p3⟩ := hP
  have q56 : ∀ x, (k_5 h (mi_f h 7680) x ∨ k_6 h (mi_f h 7680) x) → 0 < x := fun x q => by
    rcases q with ⟨r, r1, -, rfl⟩ | ⟨r, r1, -, rfl⟩
    · have := (p1 r r1).1; omega
    · have := (p1 r r1).1; omega
  have q79 : ∀ x, (k_7 h (mi_f h 7690) x ∨ k_9 h (mi_f h 7690) x) → 0 < x := fun x q => by
    rcases q with ⟨r, r1, r2, rfl⟩ | ⟨r, r1, r2, rfl⟩
    · have := (p2 r r1 r2.1).1; omega
    · have := (p2 r r1 r2.1).1; omega
  refine mt_yffA hS (fun h1 s1 s2 s3 => ?_)
  obtain ⟨⟨f1, f2⟩, E5, E6, E7, E9, E8, a62, a72, a73⟩ := k_eq (hb := hb) s3 hS
  refine ⟨_, me_checkRules (d := d) (S := fun _ => False) s1 (fun x q => q.elim) (by rw [f1]; exact n1) (by rw [f1, a62]; exact p1) (Or.inl ⟨s2, fun x q => q⟩), fun w h2 oww hq => ?_⟩
  obtain ⟨rfl, t1, t2, t3⟩ := hq
  have F2 : ab_Fr bm_W h h2 := s3.trans t2
  obtain ⟨⟨g1, g2⟩, G5, G6, G7, G9, G8, c62, c72, c73⟩ := k_eq (hb := hb) F2 hS
  rw [E5, E6, f1] at t3
  refine mt_yffB t1 (fun h3 u1 u2 => ?_)
  have e0 := me_nil u2
  subst e0
  refine ⟨_, me_checkRepeats (d := d) (S := fun x => k_5 h (mi_f h 7680) x ∨ k_6 h (mi_f h 7680) x) t1 q56 (by rw [g2]; exact m0) (by rw [g2]; exact m1) (by rw [g2, c72, c73]; exact p2) (lo_cg t3 (fun x => ⟨fun q => q.elim (fun y => y.elim) id, Or.inr⟩)), fun w h4 oww hq => ?_⟩
  obtain ⟨rfl, v1, v2, v3⟩ := hq
  rw [G7, G9, g2] at v3
  have F4 : ab_Fr bm_W h h4 := F2.trans v2
  refine mt_yffC v1 (fun h5 u1 u2 => ?_)
  have e0 := me_nil u2
  subst e0
  refine (ff_forms (d := d) hS e hF p3 (S := fun x => (k_5 h (mi_f h 7680) x ∨ k_6 h (mi_f h 7680) x) ∨ k_7 h (mi_f h 7690) x ∨ k_9 h (mi_f h 7690) x) (fun x q => q.elim (q56 x) (q79 x)) 70 0 h5 rfl v1 F4 (lo_cg v3 (fun x => ⟨Or.inl, fun q => q.elim id (fun ⟨F, hF', _⟩ => by omega)⟩)))
end FFX
/-! the reference's leads, purely -/
def cl_R (β : Int → Int64) (L : Nat → Int64) (p : sp_P) : Int64 := if p.2.1 ≠ 0 then β p.1 else if 0 ≤ p.1 then L p.1.toNat else 0
def sl_a (β : Int → Int64) (X : sp_X) (L : Nat → Int64) : List sp_P → Int64
  | [] => 0
  | p :: r => if sp_e X p then cl_R β L p ||| sl_a β X L r else cl_R β L p
theorem sl_a_c {β : Int → Int64} {X : sp_X} {L : Nat → Int64} {p : sp_P} {r : List sp_P} : sl_a β X L (p :: r) = if sp_e X p then cl_R β L p ||| sl_a β X L r else cl_R β L p := rfl
def sl_f (β : Int → Int64) (X : sp_X) (L : Nat → Int64) : List (List sp_P) → Int64
  | [] => 0
  | a :: r => sl_a β X L a ||| sl_f β X L r
theorem sl_f_c {β : Int → Int64} {X : sp_X} {L : Nat → Int64} {a : List sp_P} {r : List (List sp_P)} : sl_f β X L (a :: r) = sl_a β X L a ||| sl_f β X L r := rfl
def lr_k (β : Int → Int64) (G : sg_G) : Nat → Nat → Int64
  | 0, _ => 0
  | k + 1, F => sl_f β (sr_k G k) (lr_k β G k) (G F)
section LRK
variable {β : Int → Int64} {n : Nat} {X Y : sp_X} {L M : Nat → Int64}
theorem cl_b {b : Nat} {p : sp_P} (h : ∀ F : Nat, F < n → tb (L F) b = tb (M F) b) (hp : p.1 < n) : tb (cl_R β L p) b = tb (cl_R β M p) b := by
  unfold cl_R
  by_cases c : p.2.1 ≠ 0
  · rw [if_pos c, if_pos c]
  · rw [if_neg c, if_neg c]
    by_cases c0 : 0 ≤ p.1
    · rw [if_pos c0, if_pos c0]; exact h _ (by omega)
    · rw [if_neg c0, if_neg c0]
theorem sl_a_b {b : Nat} (hv : sE_v n X Y) (h : ∀ F : Nat, F < n → tb (L F) b = tb (M F) b) : ∀ us, sg_ok n us → tb (sl_a β X L us) b = tb (sl_a β Y M us) b := by
  intro us
  induction us with
  | nil => intro _; rfl
  | cons p r ih =>
    intro ho
    have e := sE_e hv (ho p List.mem_cons_self)
    have e2 := cl_b (β := β) h (ho p List.mem_cons_self)
    have i := ih (fun q hq => ho q (List.mem_cons_of_mem _ hq))
    rw [sl_a_c, sl_a_c]
    by_cases c : sp_e X p
    · rw [if_pos c, if_pos (e.mp c), tb_or, tb_or, i, e2]
    · rw [if_neg c, if_neg (fun q => c (e.mpr q)), e2]
theorem sl_f_b {b : Nat} (hv : sE_v n X Y) (h : ∀ F : Nat, F < n → tb (L F) b = tb (M F) b) : ∀ as, (∀ us ∈ as, sg_ok n us) → tb (sl_f β X L as) b = tb (sl_f β Y M as) b := by
  intro as
  induction as with
  | nil => intro _; rfl
  | cons a r ih =>
    intro ho
    rw [sl_f_c, sl_f_c, tb_or, tb_or, sl_a_b hv h a (ho a List.mem_cons_self), ih (fun q hq => ho q (List.mem_cons_of_mem _ hq))]
theorem cl_m {p : sp_P} (h : ∀ F : Nat, F < n → tl (L F) (M F)) (hp : p.1 < n) : tl (cl_R β L p) (cl_R β M p) := by
  unfold cl_R
  by_cases c : p.2.1 ≠ 0
  · rw [if_pos c, if_pos c]; exact tl_refl _
  · rw [if_neg c, if_neg c]
    by_cases c0 : 0 ≤ p.1
    · rw [if_pos c0, if_pos c0]; exact h _ (by omega)
    · rw [if_neg c0, if_neg c0]; exact tl_refl _
theorem sl_a_m (hv : ∀ F : Nat, F < n → X.1 F ≠ 0 → Y.1 F ≠ 0) (h : ∀ F : Nat, F < n → tl (L F) (M F)) : ∀ us, sg_ok n us → tl (sl_a β X L us) (sl_a β Y M us) := by
  intro us
  induction us with
  | nil => intro _; exact tl_refl _
  | cons p r ih =>
    intro ho
    have hp := ho p List.mem_cons_self
    have e : sp_e X p → sp_e Y p := fun q => by
      rcases q with q | q
      · exact Or.inl q
      · refine Or.inr ?_
        unfold sp_v at q ⊢
        by_cases c : 0 ≤ p.1
        · rw [if_pos c] at q ⊢; exact hv _ (by omega) q
        · rw [if_neg c] at q ⊢; exact q
    have e2 := cl_m (β := β) h hp
    have i := ih (fun q hq => ho q (List.mem_cons_of_mem _ hq))
    rw [sl_a_c, sl_a_c]
    by_cases c : sp_e X p
    · rw [if_pos c, if_pos (e c)]
      exact tl_or2 e2 i
    · rw [if_neg c]
      by_cases c2 : sp_e Y p
      · rw [if_pos c2]; exact tl_tr e2 (tl_l _ _)
      · rw [if_neg c2]; exact e2
theorem sl_f_m (hv : ∀ F : Nat, F < n → X.1 F ≠ 0 → Y.1 F ≠ 0) (h : ∀ F : Nat, F < n → tl (L F) (M F)) : ∀ as, (∀ us ∈ as, sg_ok n us) → tl (sl_f β X L as) (sl_f β Y M as) := by
  intro as
  induction as with
  | nil => intro _; exact tl_refl _
  | cons a r ih =>
    intro ho
    rw [sl_f_c, sl_f_c]
    exact tl_or2 (sl_a_m hv h a (ho a List.mem_cons_self)) (ih (fun q hq => ho q (List.mem_cons_of_mem _ hq)))
end LRK
/-! the reference's leads: they come to rest -/
section LRS
variable {β : Int → Int64} {n : Nat} {G : sg_G}
def lA (β : Int → Int64) (G : sg_G) (k : Nat) : sp_X := ((sr_k G k).1, lr_k β G k, (sr_k G k).2.2)
theorem lr_inc (hG : sg_OK n G) : ∀ (k F : Nat), F < n → tl (lr_k β G k F) (lr_k β G (k + 1) F) := by
  intro k
  induction k with
  | zero => intro F _; exact tl_0 _
  | succ k ih =>
    intro F hF
    have u := (sr_up hG (sr_k_up hG k)).1
    exact sl_f_m (fun F hF q => (u F hF).1 q) ih (G F) (fun us hu => (hG F hF us hu).1)
theorem lr_stop (hG : sg_OK n G) {k : Nat} (hk : 2 * n ≤ k) : ∀ F : Nat, F < n → lr_k β G (k + 1) F = lr_k β G k F := by
  have := sp_conv (n := n) (A := lA β G) (fun k F hF => ⟨((sr_up hG (sr_k_up hG k)).1 F hF).1, fun b q => lr_inc hG k F hF b q, ((sr_up hG (sr_k_up hG k)).1 F hF).2.2⟩) (fun k => sr_k_01 k) (fun k h => (sr_c hG).1 h) (fun k b h => ⟨(sr_c hG).1 h.1, fun F hF => ?_⟩) (fun k s h => (sr_c hG).2.2 s h) hk
  · exact fun F hF => (this F hF).2.1
  · show tb (sl_f β (sr_k G (k + 1)) (lr_k β G (k + 1)) (G F)) b = tb (sl_f β (sr_k G k) (lr_k β G k) (G F)) b
    exact sl_f_b (β := β) (n := n) (X := sr_k G (k + 1)) (Y := sr_k G k) h.1 h.2 (G F) (fun us hu => (hG F hF us hu).1)
end LRS
/-! the reference's leads: weigh -/
/-- a part's leads, as X's form row L has them -/
def ld_v (g : wk_g) (L : Nat → Int) (u : Int) : Int := if g 119 u.toNat = 9 then (Int32.ofInt 1 <<< (Int32.ofInt (g 115 (g 120 u.toNat).toNat) &&& 31)).toInt else if 0 ≤ rv_t g u then L (rv_t g u).toNat else 0
def wl_R (h0 : sm_H) (zu : Int) (h : sm_H) (w : Option mi_V) (h' : sm_H) : Prop := w = none ∧ ab_Sh sx_sk h' ∧ ab_Fr wg_W h h' ∧ ∀ i, mi_a h' 139 i = if i = zu.toNat then ld_v (mi_a h0) (mi_a h0 141) zu else mi_a h 139 i
section WLX
variable {d : Nat} {h : sm_H} {zu : Int}
theorem wlx {zf : Int} (hS : ab_Sh sx_sk h) (ef : zf = rv_t (mi_a h) zu) (hP : wg_P zu (mi_a h 119 zu.toNat) zf h) : me_E d 195 49 [some (.inr (.inr 109)), some (.inl zu), some (.inl (mi_a h 119 zu.toNat)), some (.inl zf)] [] h (wl_R h zu h) := by
  obtain ⟨p1, p2, p3, p4, p5⟩ := hP
  have ou : mi_in zu := ⟨by omega, by omega⟩
  have os : mi_in (mi_a h 119 zu.toNat) := mi_inT _
  have of : mi_in zf := by
    rw [ef]
    unfold rv_t
    split
    · exact mi_inT _
    · split
      · exact mi_inT _
      · exact ⟨by decide, by decide⟩
  have t181 : ∀ h3, ab_Sh sx_sk h3 → ab_Fr [(16768, 16769), (17152, 17153), (17792, 17793)] h h3 → (∀ i, mi_a h3 139 i = if i = zu.toNat then ld_v (mi_a h) (mi_a h 141) zu else mi_a h 139 i) → me_E d 195 181 [some (.inr (.inr 109)), some (.inl zu), some (.inl (mi_a h 119 zu.toNat)), some (.inl zf)] [] h3 (wl_R h zu h) := by
    intro h3 s1 s2 s3
    have e144 : mi_a h3 144 zf.toNat = mi_a h 144 zf.toNat := me_a (k := 144) s2 hS rfl rfl
    have fin : ∀ h4, ab_Sh sx_sk h4 → ab_Fr [(18176, 18177)] h3 h4 → wl_R h zu h none h4 := fun h4 t1 t3 => ⟨rfl, t1, (s2.wide (fun c hc => ab_swr_ok (by decide) hc)).trans (t3.wide (fun c hc => ab_swr_ok (by decide) hc)), fun i => (me_a (k := 139) t3 s1 rfl rfl).trans (s3 i)⟩
    refine mt_wgE s1 ou os of ?_ ?_ ?_
    · intro c1 c2
      exact ⟨by omega, fun h4 t1 t2 t3 => fin h4 t1 t3⟩
    · intro c1 c2
      have := p3 c2
      exact ⟨by omega, fun h4 t1 t2 t3 => fin h4 t1 t3⟩
    · intro c1
      have q := p4 c1
      have q3 := p3 q.1
      have b := mi_inT (mx_a h3 144 (Int.toNat zf))
      have b1 : -2147483648 ≤ mi_a h3 144 (Int.toNat zf) := b.1
      rw [e144] at b1 ⊢
      exact ⟨by omega, fun h4 t1 t2 t3 => fin h4 t1 t3⟩
  have t139 : ∀ h2, ab_Sh sx_sk h2 → ab_Fr [(16768, 16769), (17152, 17153)] h h2 → me_E d 195 139 [some (.inr (.inr 109)), some (.inl zu), some (.inl (mi_a h 119 zu.toNat)), some (.inl zf)] [] h2 (wl_R h zu h) := by
    intro h2 s1 s2
    have e120 : mi_a h2 120 zu.toNat = mi_a h 120 zu.toNat := me_a (k := 120) s2 hS rfl rfl
    have e115 : ∀ i, mi_a h2 115 i = mi_a h 115 i := fun i => me_a (k := 115) s2 hS rfl rfl
    have e141 : mi_a h2 141 zf.toNat = mi_a h 141 zf.toNat := me_a (k := 141) s2 hS rfl rfl
    have e139 : ∀ i, mi_a h2 139 i = mi_a h 139 i := fun i => me_a (k := 139) s2 hS rfl rfl
    have nx : ∀ (z : Int) (h3 : sm_H), z = ld_v (mi_a h) (mi_a h 141) zu → ab_Sh sx_sk h3 → (∀ i, mi_a h3 139 i = if i = zu.toNat then z else mi_a h2 139 i) → ab_Fr [(17792, 17793)] h2 h3 → me_E d 195 181 [some (.inr (.inr 109)), some (.inl zu), some (.inl (mi_a h 119 zu.toNat)), some (.inl zf)] [] h3 (wl_R h zu h) := fun z h3 ez t1 t2 t3 => t181 h3 t1 ((s2.wide (fun c hc => ab_swr_ok (by decide) hc)).trans (t3.wide (fun c hc => ab_swr_ok (by decide) hc))) (fun i => by rw [t2 i, ez, e139])
    refine mt_wgD s1 ou os of ?_ ?_ ?_
    · intro c1 c2
      refine ⟨by omega, fun h3 t1 t2 t3 => nx _ h3 ?_ t1 t2 t3⟩
      unfold ld_v
      rw [if_neg c1, ← ef, if_neg (by omega)]
    · intro c1 c2
      have := p3 c2
      refine ⟨by omega, fun h3 t1 t2 t3 => nx _ h3 ?_ t1 t2 t3⟩
      unfold ld_v
      rw [if_neg c1, ← ef, if_pos c2, e141]
    · intro c1
      have q := p4 c1
      rw [e120]
      refine ⟨by omega, fun h3 t1 t2 t3 => nx _ h3 ?_ t1 t2 t3⟩
      unfold ld_v
      rw [if_pos c1, e115]
  have t84 : ∀ h1, ab_Sh sx_sk h1 → ab_Fr [(16768, 16769)] h h1 → me_E d 195 84 [some (.inr (.inr 109)), some (.inl zu), some (.inl (mi_a h 119 zu.toNat)), some (.inl zf)] [] h1 (wl_R h zu h) := by
    intro h1 s1 s2
    have e120 : mi_a h1 120 zu.toNat = mi_a h 120 zu.toNat := me_a (k := 120) s2 hS rfl rfl
    have nx : ∀ h2, ab_Sh sx_sk h2 → ab_Fr [(17152, 17153)] h1 h2 → me_E d 195 139 [some (.inr (.inr 109)), some (.inl zu), some (.inl (mi_a h 119 zu.toNat)), some (.inl zf)] [] h2 (wl_R h zu h) := fun h2 t1 t3 => t139 h2 t1 ((s2.wide (fun c hc => ab_swr_ok (by decide) hc)).trans (t3.wide (fun c hc => ab_swr_ok (by decide) hc)))
    refine mt_wgC s1 ou os of ?_ ?_ ?_ ?_ ?_
    · intro c1 c2; exact ⟨by omega, fun h2 t1 t2 t3 => nx h2 t1 t3⟩
    · intro c1 c2 c3 c4; exact ⟨by omega, fun h2 t1 t2 t3 => nx h2 t1 t3⟩
    · intro c1 c2 c3 c4
      have := p5 c4
      rw [e120]
      exact ⟨by omega, fun h2 t1 t2 t3 => nx h2 t1 t3⟩
    · intro c1 c2 c3; exact ⟨by omega, fun h2 t1 t2 t3 => nx h2 t1 t3⟩
    · intro c1
      have := p3 c1
      exact ⟨by omega, fun h2 t1 t2 t3 => nx h2 t1 t3⟩
  refine mt_wgB hS ou os of ?_ ?_ ?_ ?_
  · intro c1 c2; exact ⟨by omega, fun h1 t1 t2 t3 => t84 h1 t1 t3⟩
  · intro c1 c2 c3; exact ⟨by omega, fun h1 t1 t2 t3 => t84 h1 t1 t3⟩
  · intro c1 c2 c3; exact ⟨by omega, fun h1 t1 t2 t3 => t84 h1 t1 t3⟩
  · intro c1
    have := p3 c1
    have b := me_ab (k := 133) (i := zf.toNat) hS rfl (by decide) (by omega)
    exact ⟨by omega, fun h1 t1 t2 t3 => t84 h1 t1 t3⟩
theorem me_weighl {Y : wk_Y} (hL : wk_L (mi_a h) Y) (hu0 : 0 ≤ zu) (hu1 : zu < wk_u Y) (hH : ∀ f : Nat, (f : Int) < wk_f Y → mi_a h 144 f ≤ 1000) (hS : ab_Sh sx_sk h) : me_E d 195 0 [some (.inr (.inr 109)), some (.inl zu), none, none] [] h (wl_R h zu h) := by
  obtain ⟨-, -, -, a6, a7, a8⟩ := hL.2.2.1 zu hu0 hu1
  have h60 := hL.1
  have h80 := hL.2.1
  refine mt_wgA hS ⟨by omega, by omega⟩ ?_ ?_ ?_
  · intro c1 c2
    refine ⟨by omega, fun h1 g1 g2 => ?_⟩
    have e := me_nil g2
    subst e
    exact wlx g1 (by unfold rv_t; rw [if_neg c1, if_neg c2]) ⟨hu0, by omega, fun z => absurd z (by decide), fun z => absurd z c2, a8⟩
  · intro c1 c2
    obtain ⟨b1, b2, b3, b4, b5, b6, -⟩ := a6 c2
    refine ⟨by omega, fun h1 g1 g2 => ?_⟩
    have e := me_nil g2
    subst e
    have b5 : 0 ≤ mi_a h1 114 (mi_a h1 115 (mi_a h1 120 zu.toNat).toNat).toNat := b5
    have b6 : mi_a h1 114 (mi_a h1 115 (mi_a h1 120 zu.toNat).toNat).toNat < wk_f Y := b6
    exact wlx g1 (by unfold rv_t; rw [if_neg c1, if_pos c2]) ⟨hu0, by omega, fun z => ⟨by omega, hH _ (by omega)⟩, fun z => ⟨b5, b1, b2⟩, fun z => by omega⟩
  · intro c1
    obtain ⟨b1, b2, -⟩ := a7 c1
    refine ⟨by omega, fun h1 g1 g2 => ?_⟩
    have e := me_nil g2
    subst e
    exact wlx g1 (by unfold rv_t; rw [if_pos c1]) ⟨hu0, by omega, fun z => ⟨by omega, hH _ (by omega)⟩, fun z => by omega, fun z => by omega⟩
end WLX
/-! the reference's leads: alternative, formOf -/
def rl_ok (β : Int → Int64) (P : Int → sp_P) (L : Nat → Int64) (h : sm_H) (u : Int) : Prop := b64 (mi_a h 139 u.toNat) = cl_R β L (P u)
def al_L (β : Int → Int64) (X : sp_X) (L : Nat → Int64) (h : sm_H) (za ze zl : Int) (us : List sp_P) (w : Option mi_V) (h' : sm_H) : Prop := w = none ∧ ab_Sh sx_sk h' ∧ ab_Fr al_W h h' ∧ ∀ i, b64 (mi_a h' 140 i) = if i = za.toNat then (if ze ≠ 0 then b64 zl ||| sl_a β X L us else b64 zl) else b64 (mi_a h 140 i)
section ALL
variable {d : Nat} {h : sm_H} {za zn : Int} {X : sp_X} {P : Int → sp_P} {β : Int → Int64} {L : Nat → Int64}
theorem alx20l (hP : P = rv_p (mi_a h)) (a0 : 0 ≤ za) (a1 : za < 80) (hS : ab_Sh sx_sk h) (hn : zn ≤ 60) : ∀ (rest : List Int) (ze zl zh zk : Int) (zs : Int64) (q9 q10 : Option mi_V), zn = zk + rest.length → 0 ≤ zk → (∀ (k : Nat) (x : Int), rest[k]? = some x → mi_a h 145 (zk.toNat + k) = x ∧ 0 ≤ x ∧ x < 60) → (∀ x ∈ rest, rp_ok P X h x ∧ rl_ok β P L h x) → (ze = 0 ∨ ze = 1) → mi_in zl → mi_in zh → (∀ v, q9 = some v → mi_ok v) → (∀ v, q10 = some v → mi_ok v) → me_E (d + 1) 196 20 [some (.inr (.inr 109)), some (.inl za), some (.inl zn), some (.inl ze), some (.inr (.inl zs)), none, some (.inl zl), some (.inl zh), some (.inl zk), q9, q10] [] h (al_L β X L h za ze zl (rest.map P)) := by
  have oa : mi_in za := ⟨by omega, by omega⟩
  intro rest
  induction rest with
  | nil =>
    intro ze zl zh zk zs q9 q10 hz k0 hr hp e01 ol oh o9 o10
    have hz : zn = zk := by rw [hz]; show zk + 0 = zk; omega
    have on : mi_in zn := ⟨by omega, by omega⟩
    have oe : mi_in ze := ⟨by omega, by omega⟩
    have ok : mi_in zk := ⟨by omega, by omega⟩
    have v2 : (if ze ≠ 0 then b64 zl ||| sl_a β X L ([] : List sp_P) else b64 zl) = b64 zl := by
      by_cases c : ze ≠ 0
      · rw [if_pos c]; exact or_0r _
      · rw [if_neg c]
    have fin : ∀ h1, (∀ i, mi_a h1 140 i = if i = za.toNat then zl else mi_a h 140 i) → ∀ i, b64 (mi_a h1 140 i) = if i = za.toNat then (if ze ≠ 0 then b64 zl ||| sl_a β X L ([] : List sp_P) else b64 zl) else b64 (mi_a h 140 i) := fun h1 g3 i => by
      rw [g3 i, v2]
      by_cases c : i = za.toNat
      · rw [if_pos c, if_pos c]
      · rw [if_neg c, if_neg c]
    refine mt_alC hS oa on oe ol oh ok o9 o10 ?_ ?_ ?_ ?_
    · intro c1 c2
      exact ⟨by omega, fun h1 g1 g2 g3 g4 g5 g6 => ⟨rfl, g1, g6.wide (fun c hc => ab_swr_ok (by decide) hc), fin h1 g3⟩⟩
    · intro c1 c2
      exact ⟨by omega, fun h1 g1 g2 g3 g4 g5 g6 => ⟨rfl, g1, g6.wide (fun c hc => ab_swr_ok (by decide) hc), fin h1 g3⟩⟩
    · intro c1; exfalso; omega
    · intro c1; exfalso; omega
  | cons u r ih =>
    intro ze zl zh zk zs q9 q10 hz k0 hr hp e01 ol oh o9 o10
    have hz : zn = zk + 1 + r.length := by rw [hz, List.length_cons]; omega
    have on : mi_in zn := ⟨by omega, by omega⟩
    have oe : mi_in ze := ⟨by omega, by omega⟩
    have ok : mi_in zk := ⟨by omega, by omega⟩
    have oz : mi_in 0 := ⟨by decide, by decide⟩
    have lt : zk < zn := by omega
    obtain ⟨r1, r2, r3⟩ := hr 0 u rfl
    have r1 : mi_a h 145 zk.toNat = u := r1
    obtain ⟨⟨m1, m2, m3⟩, m4⟩ := hp u List.mem_cons_self
    have w1 : (P u).2.2.1 ≠ 0 ↔ 0 < mi_a h 122 u.toNat := by
      rw [hP]
      show (if 0 < mi_a h 122 u.toNat then (if mi_a h 122 u.toNat = 1 then (1 : Int) else 2) else 0) ≠ 0 ↔ _
      by_cases c : 0 < mi_a h 122 u.toNat
      · rw [if_pos c]
        exact ⟨fun _ => c, fun _ => by split <;> decide⟩
      · rw [if_neg c]
        exact ⟨fun q => absurd rfl q, fun q => absurd q c⟩
    have hr' : ∀ (k : Nat) (x : Int), r[k]? = some x → mi_a h 145 ((zk + 1).toNat + k) = x ∧ 0 ≤ x ∧ x < 60 := fun k x hx => by
      have := hr (k + 1) x hx
      have e : zk.toNat + (k + 1) = (zk + 1).toNat + k := by omega
      rw [e] at this
      exact this
    have nx : ∀ (ze' zh' zl' : Int) (zs' : Int64) (q10 : Option mi_V), (ze' = 0 ∨ ze' = 1) → (ze' ≠ 0 ↔ (ze ≠ 0 ∧ sp_e X (P u))) → b64 zl' = (if ze ≠ 0 then b64 zl ||| cl_R β L (P u) else b64 zl) → mi_in zl' → mi_in zh' → (∀ v, q10 = some v → mi_ok v) → me_E (d + 1) 196 20 [some (.inr (.inr 109)), some (.inl za), some (.inl zn), some (.inl ze'), some (.inr (.inl zs')), none, some (.inl zl'), some (.inl zh'), some (.inl (zk + 1)), some (.inl (mi_a h 145 zk.toNat)), q10] [] h (al_L β X L h za ze zl ((u :: r).map P)) := by
      intro ze' zh' zl' zs' q10 e01' q3 q4 ol' oh' o10'
      refine (ih ze' zl' zh' (zk + 1) zs' _ q10 hz (by omega) hr' (fun x hx => hp x (List.mem_cons_of_mem _ hx)) e01' ol' oh' (me_oi (mi_inT _)) o10').imp (fun w h' hq => ?_)
      obtain ⟨s1, s2, s3, s4⟩ := hq
      refine ⟨s1, s2, s3, fun i => ?_⟩
      rw [s4 i, q4, List.map_cons]
      congr 1
      rw [sl_a_c]
      by_cases ce : ze ≠ 0
      · rw [if_pos ce, if_pos ce]
        by_cases cp : sp_e X (P u)
        · rw [if_pos cp, if_pos (q3.mpr ⟨ce, cp⟩), or_as]
        · rw [if_neg cp, if_neg (fun q => cp (q3.mp q).2)]
      · rw [if_neg ce, if_neg ce, if_neg (fun q => ce (q3.mp q).1)]
    have go : ∀ (zs' : Int64) (zl' : Int), b64 zl' = (if ze ≠ 0 then b64 zl ||| cl_R β L (P u) else b64 zl) → mi_in zl' → me_E (d + 1) 196 77 [some (.inr (.inr 109)), some (.inl za), some (.inl zn), some (.inl ze), some (.inr (.inl zs')), none, some (.inl zl'), some (.inl zh), some (.inl zk), some (.inl (mi_a h 145 zk.toNat)), q10] [] h (al_L β X L h za ze zl ((u :: r).map P)) := by
      intro zs' zl' q4 ol'
      have ou : mi_in (mi_a h 145 zk.toNat) := mi_inT _
      have n0 : ze = 0 → ((0 : Int) ≠ 0 ↔ (ze ≠ 0 ∧ sp_e X (P u))) := fun c0 => ⟨fun q => absurd rfl q, fun q => absurd c0 q.1⟩
      refine mt_alD hS oa on oe ol' oh ok ou o10 ?_ ?_ ?_ ?_ ?_
      · intro c0 c1 c2
        refine ⟨by omega, fun h1 g1 g2 => ?_⟩
        have e := me_nil g2
        subst e
        exact nx 0 zh zl' zs' _ (Or.inl rfl) (n0 c0) q4 ol' oh (me_oi (mi_inT _))
      · intro c0 c1 c2
        refine ⟨by omega, fun h1 g1 g2 => ?_⟩
        have e := me_nil g2
        subst e
        exact nx 0 _ zl' zs' _ (Or.inl rfl) (n0 c0) q4 ol' (mi_inT _) (me_oi (mi_inT _))
      · intro c0 c1 c2
        refine ⟨by omega, fun h1 g1 g2 => ?_⟩
        have e := me_nil g2
        subst e
        exact nx 0 zh zl' zs' _ (Or.inl rfl) (n0 c0) q4 ol' oh (me_oi oz)
      · intro c0 c1 c2
        refine ⟨by omega, fun h1 g1 g2 => ?_⟩
        have e := me_nil g2
        subst e
        exact nx 0 0 zl' zs' _ (Or.inl rfl) (n0 c0) q4 ol' oz (me_oi oz)
      · intro c0 h1 g1 g2
        have e := me_nil g2
        subst e
        refine ⟨_, me_isVoidx g1 (by rw [r1]; exact r2) (by rw [r1]; exact r3), fun w h2 ow hq => ?_⟩
        obtain ⟨e, z, rfl, z01, hz⟩ := hq
        subst e
        rw [r1] at hz
        have ie : z = 1 ↔ sp_e X (P u) := by
          rw [hz, m1]
          unfold sp_e
          rw [w1]
        have n1 : z = 0 → ((0 : Int) ≠ 0 ↔ (ze ≠ 0 ∧ sp_e X (P u))) := fun b0 => ⟨fun q => absurd rfl q, fun q => by have := ie.mpr q.2; omega⟩
        have n2 : z ≠ 0 → ((1 : Int) ≠ 0 ↔ (ze ≠ 0 ∧ sp_e X (P u))) := fun b0 => ⟨fun _ => ⟨c0, ie.mp (by omega)⟩, fun _ => by decide⟩
        refine mt_alE g1 oa on oe ol' oh ok ou ⟨by omega, by omega⟩ o10 ?_ ?_ ?_ ?_ ?_ ?_ ?_ ?_
        · intro b0 b1 b2
          refine ⟨by omega, fun h1 g1 g2 => ?_⟩
          have e := me_nil g2
          subst e
          exact nx 0 zh zl' zs' _ (Or.inl rfl) (n1 b0) q4 ol' oh (me_oi (mi_inT _))
        · intro b0 b1 b2
          refine ⟨by omega, fun h1 g1 g2 => ?_⟩
          have e := me_nil g2
          subst e
          exact nx 0 _ zl' zs' _ (Or.inl rfl) (n1 b0) q4 ol' (mi_inT _) (me_oi (mi_inT _))
        · intro b0 b1 b2
          refine ⟨by omega, fun h1 g1 g2 => ?_⟩
          have e := me_nil g2
          subst e
          exact nx 0 zh zl' zs' _ (Or.inl rfl) (n1 b0) q4 ol' oh (me_oi oz)
        · intro b0 b1 b2
          refine ⟨by omega, fun h1 g1 g2 => ?_⟩
          have e := me_nil g2
          subst e
          exact nx 0 0 zl' zs' _ (Or.inl rfl) (n1 b0) q4 ol' oz (me_oi oz)
        · intro b0 b1 b2
          refine ⟨by omega, fun h1 g1 g2 => ?_⟩
          have e := me_nil g2
          subst e
          exact nx 1 zh zl' zs' _ (Or.inr rfl) (n2 b0) q4 ol' oh (me_oi (mi_inT _))
        · intro b0 b1 b2
          refine ⟨by omega, fun h1 g1 g2 => ?_⟩
          have e := me_nil g2
          subst e
          exact nx 1 _ zl' zs' _ (Or.inr rfl) (n2 b0) q4 ol' (mi_inT _) (me_oi (mi_inT _))
        · intro b0 b1 b2
          refine ⟨by omega, fun h1 g1 g2 => ?_⟩
          have e := me_nil g2
          subst e
          exact nx 1 zh zl' zs' _ (Or.inr rfl) (n2 b0) q4 ol' oh (me_oi oz)
        · intro b0 b1 b2
          refine ⟨by omega, fun h1 g1 g2 => ?_⟩
          have e := me_nil g2
          subst e
          exact nx 1 0 zl' zs' _ (Or.inr rfl) (n2 b0) q4 ol' oz (me_oi oz)
    refine mt_alC hS oa on oe ol oh ok o9 o10 ?_ ?_ ?_ ?_
    · intro c1; exfalso; omega
    · intro c1; exfalso; omega
    · intro c1 c2
      refine ⟨by omega, fun h1 g1 g2 => ?_⟩
      have e := me_nil g2
      subst e
      exact go zs zl (by rw [if_neg (fun q => q c2)]) ol
    · intro c1 c2
      have r1' := r1
      refine ⟨by omega, fun h1 g1 g2 => ?_⟩
      have e := me_nil g2
      subst e
      refine go _ _ ?_ (mi_inT _)
      have m4 : b64 (mi_a h1 139 u.toNat) = cl_R β L (P u) := m4
      rw [if_pos c2, b64_or, r1, m4]
def al_Y (β : Int → Int64) (X : sp_X) (L : Nat → Int64) (h : sm_H) (za : Int) (w : Option mi_V) (h' : sm_H) : Prop := w = none ∧ ab_Sh sx_sk h' ∧ ab_Fr al_W h h' ∧ ∀ i, b64 (mi_a h' 140 i) = if i = za.toNat then sl_a β X L (rv_l (mi_a h) za) else b64 (mi_a h 140 i)
theorem me_alternativel {U : Int} (hS : ab_Sh sx_sk h) (hC : wk_C (mi_a h) U) (a0 : 0 ≤ za) (a1 : za < 80) (hu : mi_a h 126 za.toNat < 0 ∨ mi_a h 126 za.toNat < U) (hp : ∀ u, 0 ≤ u → u < U → rp_ok (rv_p (mi_a h)) X h u ∧ rl_ok β (rv_p (mi_a h)) L h u) : me_E (d + 1) 196 0 [some (.inr (.inr 109)), some (.inl za), none, none, none, none, none, none, none, none, none] [] h (al_Y β X L h za) := by
  have oa : mi_in za := ⟨by omega, by omega⟩
  have hU := hC.1
  refine mt_alA hS oa ?_
  intro h1 g1 g2
  have e := me_nil g2
  subst e
  refine ⟨_, me_line g1 hC a0 a1 hu, fun w h2 ow hq => ?_⟩
  obtain ⟨q1, q2, rfl, q4, q5⟩ := hq
  refine mt_alB q1 oa ⟨by omega, by omega⟩ ?_
  intro h3 r1 r2
  have e := me_nil r2
  subst e
  have eq := rv_eq_fr q2 hS (by rfl)
  have L := alx20l (d := d) (X := X) (β := β) (L := L) (P := rv_p (mi_a h1)) (zn := ((wk_row (mi_a h1) 61 (mi_a h1 126 za.toNat)).length : Int)) eq.p.symm a0 a1 q1 q4 (wk_row (mi_a h1) 61 (mi_a h1 126 za.toNat)) 1 0 0 0 0 none none (by omega) (by decide) (fun k x hx => by
    have := q5 k x hx
    refine ⟨?_, this.2.1, by omega⟩
    show mi_a h3 145 (0 + k) = x
    rw [Nat.zero_add]
    exact this.1) (fun x hx => by
    obtain ⟨k, hk⟩ := List.getElem?_of_mem hx
    have := q5 k x hk
    obtain ⟨⟨y1, y2, y3⟩, y4⟩ := hp x this.2.1 this.2.2
    refine ⟨⟨(me_a (k := 131) q2 hS rfl rfl).trans y1, (me_b (k := 134) q2 hS rfl rfl).trans y2, (me_a (k := 142) q2 hS rfl rfl).trans y3⟩, ?_⟩
    unfold rl_ok
    rw [me_a (k := 139) q2 hS rfl rfl]
    exact y4) (Or.inr rfl) fm_in0 fm_in0 me_on me_on
  refine L.imp (fun w h' hq => ?_)
  obtain ⟨s1, s2, s3, s4⟩ := hq
  refine ⟨s1, s2, (q2.wide (fun c hc => ab_swr_ok (by decide) hc)).trans s3, fun i => ?_⟩
  rw [s4 i, me_a (k := 140) q2 hS rfl rfl, if_pos (c := (1 : Int) ≠ 0) (by decide)]
  congr 1
  rw [b64_0, or_0l]
  rfl
end ALL
theorem sl_f_app {β : Int → Int64} {X : sp_X} {L : Nat → Int64} (y : List sp_P) : ∀ pre : List (List sp_P), sl_f β X L (pre ++ [y]) = sl_f β X L pre ||| sl_a β X L y := by
  intro pre
  induction pre with
  | nil =>
    show sl_a β X L y ||| 0 = 0 ||| sl_a β X L y
    rw [or_0r, or_0l]
  | cons a r ih =>
    rw [List.cons_append, sl_f_c, sl_f_c, ih, or_as]
def lp_ok (β : Int → Int64) (X : sp_X) (L : Nat → Int64) (h : sm_H) (a : Int) : Prop := b64 (mi_a h 140 a.toNat) = sl_a β X L (rv_l (mi_a h) a)
def fo_L (β : Int → Int64) (X : sp_X) (L : Nat → Int64) (h : sm_H) (zf : Int) (w : Option mi_V) (h' : sm_H) : Prop := w = none ∧ ab_Sh sx_sk h' ∧ ab_Fr fo_W h h' ∧ (∀ i, b64 (mi_a h' 141 i) = if i = zf.toNat then sl_f β X L (GR (mi_a h) zf.toNat) else b64 (mi_a h 141 i)) ∧ (mi_f h' 13999 = 0 → sl_f β X L (GR (mi_a h) zf.toNat) = b64 (mi_a h 141 zf.toNat))
section FOL
variable {d : Nat} {h : sm_H} {zf : Int} {X : sp_X} {β : Int → Int64} {L : Nat → Int64}
theorem fox105l {ze zl zh za : Int} {zs : Int64} (f0 : 0 ≤ zf) (f1 : zf < 80) (hS : ab_Sh sx_sk h) (e01 : ze = 0 ∨ ze = 1) (el : b64 zl = sl_f β X L (GR (mi_a h) zf.toNat)) (ol : mi_in zl) (oh : mi_in zh) (oa : mi_in za) : me_E d 199 105 [some (.inr (.inr 109)), some (.inl zf), some (.inl ze), some (.inr (.inl zs)), none, some (.inl zl), some (.inl zh), some (.inl za)] [] h (fo_L β X L h zf) := by
  have of : mi_in zf := ⟨by omega, by omega⟩
  have oe : mi_in ze := ⟨by omega, by omega⟩
  have go : ∀ h1, ab_Sh sx_sk h1 → ab_Fr [(13999, 14000)] h h1 → (mi_f h1 13999 = 0 → zl = mi_a h 141 zf.toNat) → me_E d 199 164 [some (.inr (.inr 109)), some (.inl zf), some (.inl ze), some (.inr (.inl zs)), none, some (.inl zl), some (.inl zh), some (.inl za)] [] h1 (fo_L β X L h zf) := by
    intro h1 s1 s2 s3
    refine mt_foD s1 of oe ol oh oa ⟨by omega, fun h2 t1 t2 t3 t4 t5 t6 => ?_⟩
    refine ⟨rfl, t1, (s2.wide (fun c hc => ab_swr_ok (by decide) hc)).trans (t6.wide (fun c hc => ab_swr_ok (by decide) hc)), fun i => ?_, fun q => ?_⟩
    · rw [t3 i, me_a (k := 141) s2 hS rfl rfl, ← el]
      by_cases c : i = zf.toNat
      · rw [if_pos c, if_pos c]
      · rw [if_neg c, if_neg c]
    · have x := s3 ((me_f (c := 13999) t6 s1 rfl rfl).symm.trans q)
      rw [← x]
      exact el.symm
  refine mt_foC hS of oe ol oh oa ?_ ?_ ?_ ?_ ?_ ?_
  · intro b k1 h1 s1 s2 s3
    exact go h1 s1 s3 (fun q => by omega)
  · intro b k1 k2
    exact ⟨by omega, fun h1 s1 s2 s3 => go h1 s1 s3 (fun q => by omega)⟩
  · intro b k1 k2 k3
    exact ⟨by omega, fun h1 s1 s2 s3 => go h1 s1 s3 (fun q => by omega)⟩
  · intro b k1 k2 k3 k4
    exact ⟨by omega, fun h1 s1 s2 s3 => go h1 s1 s3 (fun q => by omega)⟩
  · intro b k1 k2 k3 k4 k5
    exact ⟨by omega, fun h1 s1 s2 s3 => go h1 s1 s3 (fun q => k4)⟩
  · intro b k1 k2 k3 k4 k5
    exact ⟨by omega, fun h1 s1 s2 s3 => go h1 s1 s3 (fun q => by omega)⟩
theorem me_formOfl {Y : wk_Y} {A : Int} (hL : wk_L (mi_a h) Y) (f0 : 0 ≤ zf) (f1 : zf < wk_f Y) (hS : ab_Sh sx_sk h) (hA : ∀ j : Nat, (j : Int) < mi_a h 130 zf.toNat → wk_alt (mi_a h) j (mi_a h 129 zf.toNat) < A) (hp : ∀ a, 0 ≤ a → a < A → lp_ok β X L h a) : me_E d 199 0 [some (.inr (.inr 109)), some (.inl zf), none, none, none, none, none, none] [] h (fo_L β X L h zf) := by
  have h80 := hL.2.1
  have of : mi_in zf := ⟨by omega, by omega⟩
  obtain ⟨-, -, c1, c2, -, c3⟩ := hL.2.2.2 zf f0 f1
  have lp : ∀ (m j : Nat) (pre : List (List sp_P)) (ze zl zh za : Int) (zs : Int64), j + m = (mi_a h 130 zf.toNat).toNat → za = wk_alt (mi_a h) j (mi_a h 129 zf.toNat) → pre ++ rv_as (mi_a h) m za = GR (mi_a h) zf.toNat → (ze = 0 ∨ ze = 1) → b64 zl = sl_f β X L pre → mi_in zl → mi_in zh → mi_in za → me_E d 199 20 [some (.inr (.inr 109)), some (.inl zf), some (.inl ze), some (.inr (.inl zs)), none, some (.inl zl), some (.inl zh), some (.inl za)] [] h (fo_L β X L h zf) := by
    intro m
    induction m with
    | zero =>
      intro j pre ze zl zh za zs hj hza hpre e01 el ol oh oa
      have oe : mi_in ze := ⟨by omega, by omega⟩
      have neg : za < 0 := by
        have ej : j = (mi_a h 130 zf.toNat).toNat := by omega
        rw [← ej, ← hza] at c2
        exact c2
      have epre : pre = GR (mi_a h) zf.toNat := by rw [← hpre]; exact (List.append_nil pre).symm
      rw [epre] at el
      refine mt_foB hS of oe ol oh oa ?_ ?_ ?_ ?_ ?_ ?_ ?_
      · intro c h1 g1 g2
        have e := me_nil g2
        subst e
        exact fox105l f0 (by omega) g1 e01 el ol oh oa
      all_goals
        intro c0
        exfalso
        omega
    | succ m ih =>
      intro j pre ze zl zh za zs hj hza hpre e01 el ol oh oa
      have oe : mi_in ze := ⟨by omega, by omega⟩
      have lt : (j : Int) < mi_a h 130 zf.toNat := by omega
      have bd := c3 j lt
      rw [← hza] at bd
      have ba := hA j lt
      rw [← hza] at ba
      have m1 : b64 (mi_a h 140 za.toNat) = sl_a β X L (rv_l (mi_a h) za) := hp za bd.1 ba
      have hpre' : (pre ++ [rv_l (mi_a h) za]) ++ rv_as (mi_a h) m (mi_a h 128 za.toNat) = GR (mi_a h) zf.toNat := by
        rw [← hpre, List.append_assoc]
        all_goals rfl
      have nx : ∀ (ze' zh' : Int) (zs' : Int64), (ze' = 0 ∨ ze' = 1) → mi_in zh' → me_E d 199 20 [some (.inr (.inr 109)), some (.inl zf), some (.inl ze'), some (.inr (.inl zs')), none, some (.inl ((Int32.ofInt zl ||| Int32.ofInt (mi_a h 140 (Int.toNat za))).toInt)), some (.inl zh'), some (.inl (mi_a h 128 (Int.toNat za)))] [] h (fo_L β X L h zf) := by
        intro ze' zh' zs' q1 oh'
        refine ih (j + 1) _ ze' _ zh' _ zs' (by omega) (by rw [wk_alt_succ, hza]) hpre' q1 ?_ (mi_inT _) oh' (mi_inT _)
        rw [b64_or, sl_f_app, el, m1]
      refine mt_foB hS of oe ol oh oa ?_ ?_ ?_ ?_ ?_ ?_ ?_
      · intro c; exfalso; omega
      · intro w0 w1 w2
        refine ⟨by omega, fun h1 g1 g2 => ?_⟩
        have e := me_nil g2
        subst e
        exact nx _ _ _ (Or.inr rfl) oh
      · intro w0 w1 w2
        refine ⟨by omega, fun h1 g1 g2 => ?_⟩
        have e := me_nil g2
        subst e
        exact nx _ _ _ (Or.inr rfl) (mi_inT _)
      · intro w0 w1 w2 w3
        refine ⟨by omega, fun h1 g1 g2 => ?_⟩
        have e := me_nil g2
        subst e
        exact nx _ _ _ (Or.inl rfl) oh
      · intro w0 w1 w2 w3
        refine ⟨by omega, fun h1 g1 g2 => ?_⟩
        have e := me_nil g2
        subst e
        exact nx _ _ _ (Or.inl rfl) (mi_inT _)
      · intro w0 w1 w2 w3
        refine ⟨by omega, fun h1 g1 g2 => ?_⟩
        have e := me_nil g2
        subst e
        exact nx _ _ _ (Or.inr rfl) oh
      · intro w0 w1 w2 w3
        refine ⟨by omega, fun h1 g1 g2 => ?_⟩
        have e := me_nil g2
        subst e
        exact nx _ _ _ (Or.inr rfl) (mi_inT _)
  refine mt_foA hS of ⟨by omega, fun h1 g1 g2 => ?_⟩
  have e := me_nil g2
  subst e
  exact lp (mi_a h1 130 zf.toNat).toNat 0 [] 0 0 1000 _ _ (by omega) rfl rfl (Or.inl rfl) rfl fm_in0 ⟨by decide, by decide⟩ (mi_inT _)
end FOL
/-! the reference's study with leads: the rounds -/
def lX (h : sm_H) : Nat → Int64 := fun F => b64 (mi_a h 141 F)
/-- the bit of a use is that of its rule -/
def bt_ok (β : Int → Int64) (hb : sm_H) : Prop := ∀ u : Int, 0 ≤ u → u < mi_f hb 13963 → mi_a hb 119 u.toNat = 9 → β (rv_t (mi_a hb) u) = bitC (mi_a hb 115 (mi_a hb 120 u.toNat).toNat)
theorem rv_t_eq {h h' : sm_H} (e : rv_eq h h') : rv_t (mi_a h') = rv_t (mi_a h) := by
  funext u
  unfold rv_t
  rw [e 119 (by decide), e 120 (by decide), e 115 (by decide), e 114 (by decide)]
theorem ld_b {β : Int → Int64} {hb h : sm_H} {u : Int} (hβ : bt_ok β hb) (e : rv_eq hb h) (u0 : 0 ≤ u) (u1 : u < mi_f hb 13963) : b64 (ld_v (mi_a h) (mi_a h 141) u) = cl_R β (lX h) (rv_p (mi_a hb) u) := by
  have k := hβ u u0 u1
  unfold ld_v cl_R
  rw [rv_t_eq e, e 119 (by decide), e 120 (by decide), e 115 (by decide)]
  show _ = if (if mi_a hb 119 u.toNat = 9 then (1 : Int) else 0) ≠ 0 then β (rv_t (mi_a hb) u) else if 0 ≤ rv_t (mi_a hb) u then lX h (rv_t (mi_a hb) u).toNat else 0
  by_cases c : mi_a hb 119 u.toNat = 9
  · rw [if_pos c, if_pos c, if_pos (show (1 : Int) ≠ 0 from by decide), k c]
    unfold b64 bitC
    rw [Int32.ofInt_toInt]
  · rw [if_neg c, if_neg c, if_neg (show ¬ ((0 : Int) ≠ 0) from fun q => q rfl)]
    by_cases c0 : 0 ≤ rv_t (mi_a hb) u
    · rw [if_pos c0, if_pos c0]
      rfl
    · rw [if_neg c0, if_neg c0]
      rfl
theorem lX_fr {h h' : sm_H} {wr : List (Nat × Nat)} (hF : ab_Fr wr h h') (hS : ab_Sh sx_sk h) (hw : ab_in wr 18048 = false) : lX h' = lX h := by
  funext F
  unfold lX
  rw [me_a (k := 141) hF hS rfl hw]
theorem rl_ok_fr {β : Int → Int64} {P : Int → sp_P} {L : Nat → Int64} {h h' : sm_H} {u : Int} {wr : List (Nat × Nat)} (hF : ab_Fr wr h h') (hS : ab_Sh sx_sk h) (hw : ab_in wr 17792 = false) (k : rl_ok β P L h u) : rl_ok β P L h' u := by
  unfold rl_ok at k ⊢
  rw [me_a (k := 139) hF hS rfl hw]
  exact k
theorem lp_ok_fr {β : Int → Int64} {X : sp_X} {L : Nat → Int64} {h h' : sm_H} {a : Int} {wr : List (Nat × Nat)} (hF : ab_Fr wr h h') (hS : ab_Sh sx_sk h) (e : rv_eq h h') (hw : ab_in wr 17920 = false) (k : lp_ok β X L h a) : lp_ok β X L h' a := by
  unfold lp_ok at k ⊢
  rw [e.l, me_a (k := 140) hF hS rfl hw]
  exact k
section STL
variable {d : Nat} {hb : sm_H} {Y : wk_Y} {X : sp_X} {W : sp_F} {β : Int → Int64} {L : Nat → Int64}
def st_wl (β : Int → Int64) (hb : sm_H) (W : sp_F) (X : sp_X) (L : Nat → Int64) (z : Int) (h : sm_H) : Prop := st_w hb W X z h ∧ lX h = L ∧ ∀ u : Int, 0 ≤ u → u < z → rl_ok β (rv_p (mi_a hb)) L h u
def st_al (β : Int → Int64) (hb : sm_H) (W : sp_F) (X : sp_X) (L : Nat → Int64) (z : Int) (h : sm_H) : Prop := st_a hb W X z h ∧ lX h = L ∧ (∀ u : Int, 0 ≤ u → u < mi_f hb 13963 → rl_ok β (rv_p (mi_a hb)) L h u) ∧ ∀ a : Int, 0 ≤ a → a < z → lp_ok β X L h a
def st_fl (β : Int → Int64) (hb : sm_H) (W : sp_F) (X : sp_X) (L : Nat → Int64) (z : Int) (h : sm_H) : Prop := st_f hb W X z h ∧ (∀ a : Int, 0 ≤ a → a < mi_f hb 13964 → lp_ok β X L h a) ∧ (∀ F : Nat, (F : Int) < z → lX h F = sl_f β X L (GR (mi_a hb) F)) ∧ (∀ F : Nat, z ≤ F → lX h F = L F) ∧ (mi_f h 13999 = 0 → ∀ F : Nat, (F : Int) < z → sl_f β X L (GR (mi_a hb) F) = L F)
variable {Q : Option mi_V → sm_H → Prop} {za : Int} {q3 : Option mi_V}
theorem st137l (hL : sy_L hb Y) (hA : sy_A hb) (hSb : ab_Sh sx_sk hb) (oa : mi_in za) (oa1 : mi_in (za + 1)) (o3 : ∀ v, q3 = some v → mi_ok v) (K : ∀ h zb, mi_in zb → st_fl β hb W X L (mi_f hb 13965) h → me_E (d + 3) 194 74 [some (.inr (.inr 109)), some (.inl (za + 1)), some (.inl zb), q3] [] h Q) : ∀ (N : Nat) (zb : Int) (h : sm_H), 80 - zb < N → 0 ≤ zb → zb ≤ mi_f hb 13965 → st_fl β hb W X L zb h → me_E (d + 3) 194 137 [some (.inr (.inr 109)), some (.inl za), some (.inl zb), q3] [] h Q := by
  intro N
  induction N with
  | zero =>
    intro zb h hN b0 b1
    exfalso
    have := me_fb (c := 13965) hSb rfl
    omega
  | succ N ih =>
    intro zb h hN b0 b1 hI
    obtain ⟨⟨i1, i2, i3, i4, i5, i6⟩, l1, l2, l3, l4⟩ := id hI
    have b80 := me_fb (c := 13965) hSb rfl
    have ob : mi_in zb := ⟨by omega, by omega⟩
    have cn := st_cnt hSb i1
    have e := st_eq hSb i1
    refine mt_stH i1.1 oa ob o3 ?_ ?_
    · intro b c1
      refine ⟨oa1, fun h1 g1 g2 => ?_⟩
      have e0 := me_nil g2
      subst e0
      have : zb = mi_f hb 13965 := by omega
      rw [this] at hI
      exact K h1 zb ob hI
    · intro b c1 h1 g1 g2
      have e0 := me_nil g2
      subst e0
      have hL1 := sy_L_fr hL hSb i1.2.1
      have zlt : zb < mi_f hb 13965 := by omega
      have hA1 : ∀ j : Nat, (j : Int) < mi_a h1 130 zb.toNat → wk_alt (mi_a h1) j (mi_a h1 129 zb.toNat) < mi_f hb 13964 := fun j hj => by
        rw [wk_alt_cg (e 128 (by decide)), e 129 (by decide)]
        rw [e 130 (by decide)] at hj
        exact hA zb.toNat (by omega) j hj
      refine ⟨_, (me_formOfx (d := d + 2) (X := X) (A := mi_f hb 13964) hL1.1 b0 (by rw [hL1.2.2.1]; exact c1) i1.1 hA1 i3).and (me_formOfl (d := d + 2) (β := β) (X := X) (L := L) (A := mi_f hb 13964) hL1.1 b0 (by rw [hL1.2.2.1]; exact c1) i1.1 hA1 l1), fun w h2 oww hq => ?_⟩
      · obtain ⟨⟨rfl, s1, s2, s3, s4, s5, s6⟩, -, -, -, s7, s8⟩ := hq
        rw [e.g] at s3 s4 s5 s6 s7 s8
        have B2 : st_B hb W h2 := ⟨s1, i1.2.1.trans (s2.wide (fun c hc => ab_swr_ok (by decide) hc)), (funext fun i => me_b (k := 138) s2 i1.1 rfl rfl).trans i1.2.2⟩
        have e12 : rv_eq h1 h2 := rv_eq_fr s2 i1.1 rfl
        refine mt_stI s1 oa ob o3 ⟨⟨by omega, by omega⟩, fun h3 g1 g2 => ?_⟩
        have e0 := me_nil g2
        subst e0
        refine ih (zb + 1) h3 (by omega) (by omega) (by omega) ⟨⟨B2, fun u u0 u1 => rp_ok_fr s2 i1.1 rfl (i2 u u0 u1), fun a a0 a1 => ap_ok_fr s2 i1.1 e12 rfl (i3 a a0 a1), fun F hF => ?_, fun F hF => ?_, fun q F hF => ?_⟩, fun a a0 a1 => lp_ok_fr s2 i1.1 e12 rfl (l1 a a0 a1), fun F hF => ?_, fun F hF => ?_, fun q F hF => ?_⟩
        · show mi_a h3 133 F = _ ∧ mx_b h3 136 F = _ ∧ mi_a h3 144 F = _
          rw [s3, s4, s5]
          by_cases c : F = zb.toNat
          · rw [if_pos c, if_pos c, if_pos c, c]
            exact ⟨rfl, rfl, rfl⟩
          · rw [if_neg c, if_neg c, if_neg c]
            exact i4 F (by omega)
        · show mi_a h3 133 F = _ ∧ mx_b h3 136 F = _ ∧ mi_a h3 144 F = _
          have c : F ≠ zb.toNat := by omega
          rw [s3, s4, s5, if_neg c, if_neg c, if_neg c]
          exact i5 F (by omega)
        · obtain ⟨x1, x2, x3, x4⟩ := s6 q
          by_cases c : F = zb.toNat
          · obtain ⟨y1, y2, y3⟩ := i5 F (by omega)
            rw [← c] at x2 x3 x4
            exact ⟨x2.trans y1, x3.trans y2, x4.trans y3⟩
          · exact i6 x1 F (by omega)
        · show b64 (mi_a h3 141 F) = _
          rw [s7]
          by_cases c : F = zb.toNat
          · rw [if_pos c, c]
          · rw [if_neg c]
            exact l2 F (by omega)
        · show b64 (mi_a h3 141 F) = _
          have c : F ≠ zb.toNat := by omega
          rw [s7, if_neg c]
          exact l3 F (by omega)
        · obtain ⟨x1, -⟩ := s6 q
          by_cases c : F = zb.toNat
          · have := s8 q
            rw [← c] at this
            exact this.trans (l3 F (by omega))
          · exact l4 x1 F (by omega)
theorem st116l (hL : sy_L hb Y) (hSb : ab_Sh sx_sk hb) (oa : mi_in za) (o3 : ∀ v, q3 = some v → mi_ok v) (K : ∀ h, st_al β hb W X L (mi_f hb 13964) h → me_E (d + 3) 194 137 [some (.inr (.inr 109)), some (.inl za), some (.inl 0), q3] [] h Q) : ∀ (N : Nat) (zb : Int) (h : sm_H), 80 - zb < N → 0 ≤ zb → zb ≤ mi_f hb 13964 → st_al β hb W X L zb h → me_E (d + 3) 194 116 [some (.inr (.inr 109)), some (.inl za), some (.inl zb), q3] [] h Q := by
  intro N
  induction N with
  | zero =>
    intro zb h hN b0 b1
    exfalso
    have := me_fb (c := 13964) hSb rfl
    omega
  | succ N ih =>
    intro zb h hN b0 b1 hI
    obtain ⟨⟨⟨i1, i2, i3, i4⟩, i5⟩, l1, l2, l3⟩ := id hI
    have b80 := me_fb (c := 13964) hSb rfl
    have ob : mi_in zb := ⟨by omega, by omega⟩
    have cn := st_cnt hSb i1
    have e := st_eq hSb i1
    refine mt_stF i1.1 oa ob o3 ?_ ?_
    · intro b c1 h1 g1 g2
      have e0 := me_nil g2
      subst e0
      have : zb = mi_f hb 13964 := by omega
      rw [this] at hI
      exact K h1 hI
    · intro b c1 h1 g1 g2
      have e0 := me_nil g2
      subst e0
      have hL1 := sy_L_fr hL hSb i1.2.1
      have cu : ∀ u : Int, u < wk_u Y → u < mi_f hb 13963 := fun u u1 => by rw [hL1.2.1, cn.1] at u1; exact u1
      refine ⟨_, (me_alternativex (d := d + 1) (X := X) (U := wk_u Y) i1.1 (wk_L_C hL1.1) b0 (by omega) (hL1.2.2.2.1 zb b0 (by omega)) (fun u u0 u1 => by rw [e.p]; exact i4 u u0 (cu u u1))).and (me_alternativel (d := d + 1) (β := β) (X := X) (L := L) (U := wk_u Y) i1.1 (wk_L_C hL1.1) b0 (by omega) (hL1.2.2.2.1 zb b0 (by omega)) (fun u u0 u1 => by rw [e.p]; exact ⟨i4 u u0 (cu u u1), l2 u u0 (cu u u1)⟩)), fun w h2 oww hq => ?_⟩
      obtain ⟨⟨rfl, s1, s2, s3, s4, s5⟩, -, -, -, s6⟩ := hq
      have B2 : st_B hb W h2 := ⟨s1, i1.2.1.trans (s2.wide (fun c hc => ab_swr_ok (by decide) hc)), (funext fun i => me_b (k := 138) s2 i1.1 rfl rfl).trans i1.2.2⟩
      have e12 : rv_eq h1 h2 := rv_eq_fr s2 i1.1 rfl
      refine mt_stG s1 oa ob o3 ⟨⟨by omega, by omega⟩, fun h3 g1 g2 => ?_⟩
      have e0 := me_nil g2
      subst e0
      refine ih (zb + 1) h3 (by omega) (by omega) (by omega) ⟨⟨⟨B2, (rX_fr s2 i1.1 rfl).trans i2, (me_f (c := 13999) s2 i1.1 rfl rfl).trans i3, fun u u0 u1 => rp_ok_fr s2 i1.1 rfl (i4 u u0 u1)⟩, fun a a0 a1 => ?_⟩, (lX_fr s2 i1.1 rfl).trans l1, fun u u0 u1 => rl_ok_fr s2 i1.1 rfl (l2 u u0 u1), fun a a0 a1 => ?_⟩
      · unfold ap_ok
        rw [s3, s4, s5, e12.l]
        by_cases c : a = zb
        · rw [if_pos (by rw [c]), if_pos (by rw [c]), if_pos (by rw [c]), c]
          exact ⟨rfl, rfl, rfl⟩
        · have c' : a.toNat ≠ zb.toNat := by omega
          rw [if_neg c', if_neg c', if_neg c']
          exact i5 a a0 (by omega)
      · unfold lp_ok
        rw [s6, e12.l]
        by_cases c : a = zb
        · rw [if_pos (by rw [c]), c]
        · have c' : a.toNat ≠ zb.toNat := by omega
          rw [if_neg c']
          exact l3 a a0 (by omega)
theorem st95l (hβ : bt_ok β hb) (hL : sy_L hb Y) (hSb : ab_Sh sx_sk hb) (hH : ∀ F : Nat, (F : Int) < mi_f hb 13965 → X.2.2 F ≤ 1000) (oa : mi_in za) (o3 : ∀ v, q3 = some v → mi_ok v) (K : ∀ h, st_wl β hb W X L (mi_f hb 13963) h → me_E (d + 3) 194 116 [some (.inr (.inr 109)), some (.inl za), some (.inl 0), q3] [] h Q) : ∀ (N : Nat) (zb : Int) (h : sm_H), 60 - zb < N → 0 ≤ zb → zb ≤ mi_f hb 13963 → st_wl β hb W X L zb h → me_E (d + 3) 194 95 [some (.inr (.inr 109)), some (.inl za), some (.inl zb), q3] [] h Q := by
  intro N
  induction N with
  | zero =>
    intro zb h hN b0 b1
    exfalso
    have := me_fb (c := 13963) hSb rfl
    omega
  | succ N ih =>
    intro zb h hN b0 b1 hI
    obtain ⟨⟨i1, i2, i3, i4⟩, l1, l2⟩ := id hI
    have b60 := me_fb (c := 13963) hSb rfl
    have ob : mi_in zb := ⟨by omega, by omega⟩
    have cn := st_cnt hSb i1
    have e := st_eq hSb i1
    refine mt_stD i1.1 oa ob o3 ?_ ?_
    · intro b c1 h1 g1 g2
      have e0 := me_nil g2
      subst e0
      have : zb = mi_f hb 13963 := by omega
      rw [this] at hI
      exact K h1 hI
    · intro b c1 h1 g1 g2
      have e0 := me_nil g2
      subst e0
      have hL1 := sy_L_fr hL hSb i1.2.1
      have hH1 : ∀ F : Nat, (F : Int) < wk_f Y → mi_a h1 144 F ≤ 1000 := fun F hF => by
        rw [hL1.2.2.1, cn.2.2.1] at hF
        have := hH F hF
        rw [← i2] at this
        exact this
      have zlt : zb < mi_f hb 13963 := by omega
      refine ⟨_, (me_weighx (d := d + 2) hL1.1 b0 (by rw [hL1.2.1]; exact c1) hH1 i1.1).and (me_weighl (d := d + 2) hL1.1 b0 (by rw [hL1.2.1]; exact c1) hH1 i1.1), fun w h2 oww hq => ?_⟩
      · obtain ⟨⟨rfl, s1, s2, s3, s4, s5⟩, -, -, -, s6⟩ := hq
        rw [i2, e.p] at s3 s4 s5
        have B2 : st_B hb W h2 := ⟨s1, i1.2.1.trans (s2.wide (fun c hc => ab_swr_ok (by decide) hc)), (funext fun i => me_b (k := 138) s2 i1.1 rfl rfl).trans i1.2.2⟩
        refine mt_stE s1 oa ob o3 ⟨⟨by omega, by omega⟩, fun h3 g1 g2 => ?_⟩
        have e0 := me_nil g2
        subst e0
        refine ih (zb + 1) h3 (by omega) (by omega) (by omega) ⟨⟨B2, (rX_fr s2 i1.1 rfl).trans i2, (me_f (c := 13999) s2 i1.1 rfl rfl).trans i3, fun u u0 u1 => ?_⟩, (lX_fr s2 i1.1 rfl).trans l1, fun u u0 u1 => ?_⟩
        · unfold rp_ok
          rw [s3, s4, s5]
          by_cases c : u = zb
          · rw [if_pos (by rw [c]), if_pos (by rw [c]), if_pos (by rw [c]), c]
            exact ⟨rfl, rfl, rfl⟩
          · have c' : u.toNat ≠ zb.toNat := by omega
            rw [if_neg c', if_neg c', if_neg c']
            exact i4 u u0 (by omega)
        · unfold rl_ok
          rw [s6]
          by_cases c : u = zb
          · rw [if_pos (by rw [c]), c, ← l1]
            exact ld_b hβ e b0 zlt
          · have c' : u.toNat ≠ zb.toNat := by omega
            rw [if_neg c']
            exact l2 u u0 (by omega)
theorem sl_f_eq {n : Nat} {X Z : sp_X} {L M : Nat → Int64} {as : List (List sp_P)} (hv : sp_eq n X Z) (hl : ∀ F : Nat, F < n → L F = M F) (ho : ∀ us ∈ as, sg_ok n us) : sl_f β X L as = sl_f β Z M as := tb_ext (fun b => sl_f_b (β := β) (n := n) (X := X) (Y := Z) hv.v (fun F hF => by rw [hl F hF]) as ho)
/-- the first rounds are through -/
def st_1y (β : Int → Int64) (hb : sm_H) (W : sp_F) (j : Nat) (h : sm_H) : Prop := st_1x hb W j h ∧ (∀ F : Nat, (F : Int) < mi_f hb 13965 → lX h F = lr_k β (GR (mi_a hb)) j F) ∧ (∀ F : Nat, (F : Int) < mi_f hb 13965 → lr_k β (GR (mi_a hb)) (j + 1) F = lr_k β (GR (mi_a hb)) j F) ∧ ∃ X, sp_eq (mi_f hb 13965).toNat X (sr_k (GR (mi_a hb)) j) ∧ ∀ a : Int, 0 ≤ a → a < mi_f hb 13964 → ap_ok X h a
def st_Hl (β : Int → Int64) (hb : sm_H) (W : sp_F) (k : Nat) (h : sm_H) : Prop := st_H hb W k h ∧ (∀ F : Nat, (F : Int) < mi_f hb 13965 → lX h F = lr_k β (GR (mi_a hb)) k F) ∧ ∀ j, k = j + 1 → (mi_f h 13999 = 0 → ∀ F : Nat, (F : Int) < mi_f hb 13965 → lr_k β (GR (mi_a hb)) (j + 1) F = lr_k β (GR (mi_a hb)) j F) ∧ ∃ X, sp_eq (mi_f hb 13965).toNat X (sr_k (GR (mi_a hb)) j) ∧ ∀ a : Int, 0 ≤ a → a < mi_f hb 13964 → ap_ok X h a
theorem st_endl {k : Nat} {h : sm_H} (hL : sy_L hb Y) (hA : sy_A hb) (hSb : ab_Sh sx_sk hb) (hH : st_Hl β hb W k h) (hx : mi_f h 13999 = 0 ∨ 900 ≤ k) : ∃ j, st_1y β hb W j h := by
  obtain ⟨⟨i1, i3, i5, i6⟩, l1, l2⟩ := hH
  have hG := sy_OK hL hA
  have b80 := me_fb (c := 13965) hSb rfl
  cases k with
  | zero =>
    exfalso
    rcases hx with q | q
    · exact i5 rfl q
    · omega
  | succ j =>
    obtain ⟨j1, X, j2, j3⟩ := i6 j rfl
    obtain ⟨m1, Z, m2, m3⟩ := l2 j rfl
    have E : sp_eq (mi_f hb 13965).toNat (sr_k (GR (mi_a hb)) (j + 1)) (sr_k (GR (mi_a hb)) j) := by
      rcases hx with q | q
      · exact j1 q
      · exact sr_k_stop hG (by omega)
    have EL : ∀ F : Nat, (F : Int) < mi_f hb 13965 → lr_k β (GR (mi_a hb)) (j + 1) F = lr_k β (GR (mi_a hb)) j F := by
      rcases hx with q | q
      · exact m1 q
      · exact fun F hF => lr_stop hG (by omega) F (by omega)
    exact ⟨j, ⟨i1, i3.trans E, sr_fix E, fun u u0 u1 => rq_ok_eq j2 (rv_p1 hL u0 (by rw [hL.2.1]; exact u1)) (j3 u u0 u1)⟩, fun F hF => (l1 F hF).trans (EL F hF), EL, Z, m2, m3⟩
theorem st74l (hβ : bt_ok β hb) (hL : sy_L hb Y) (hA : sy_A hb) (hSb : ab_Sh sx_sk hb) (K : ∀ h j q2 q3, (∀ v, q2 = some v → mi_ok v) → (∀ v, q3 = some v → mi_ok v) → st_1y β hb W j h → mi_f h 13999 = 1 → me_E (d + 3) 194 169 [some (.inr (.inr 109)), some (.inl 0), q2, q3] [] h Q) : ∀ (N k : Nat) (q2 q3 : Option mi_V) (h : sm_H), 900 - k < N → k ≤ 900 → (∀ v, q2 = some v → mi_ok v) → (∀ v, q3 = some v → mi_ok v) → st_Hl β hb W k h → me_E (d + 3) 194 74 [some (.inr (.inr 109)), some (.inl (k : Int)), q2, q3] [] h Q := by
  have hG := sy_OK hL hA
  have b80 := me_fb (c := 13965) hSb rfl
  have b64' := me_fb (c := 13964) hSb rfl
  have b63 := me_fb (c := 13963) hSb rfl
  have out : ∀ (h h1 : sm_H) (j : Nat) (q2 q3 : Option mi_V), (∀ v, q2 = some v → mi_ok v) → (∀ v, q3 = some v → mi_ok v) → st_1y β hb W j h → ab_Sh sx_sk h1 → mi_f h1 13999 = 1 → ab_Fr [(13999, 14000)] h h1 → me_E (d + 3) 194 169 [some (.inr (.inr 109)), some (.inl 0), q2, q3] [] h1 Q := by
    intro h h1 j q2 q3 o2 o3 hj s1 s2 s3
    obtain ⟨⟨⟨b1, b2, b3⟩, j2, j3, j4⟩, l1, l2, Z, l3, l4⟩ := hj
    refine K h1 j q2 q3 o2 o3 ⟨⟨⟨s1, b2.trans (s3.wide (fun c hc => ab_swr_ok (by decide) hc)), (funext fun i => me_b (k := 138) s3 b1 rfl rfl).trans b3⟩, by rw [rX_fr s3 b1 rfl]; exact j2, j3, fun u u0 u1 => ?_⟩, fun F hF => by rw [lX_fr s3 b1 rfl]; exact l1 F hF, l2, Z, l3, fun a a0 a1 => ap_ok_fr s3 b1 (rv_eq_fr s3 b1 rfl) rfl (l4 a a0 a1)⟩ s2
    obtain ⟨x1, x2⟩ := j4 u u0 u1
    exact ⟨(me_a (k := 131) s3 b1 rfl rfl).trans x1, (me_b (k := 134) s3 b1 rfl rfl).trans x2⟩
  intro N
  induction N with
  | zero => intro k q2 q3 h hN; exfalso; omega
  | succ N ih =>
    intro k q2 q3 h hN hk o2 o3 hH
    have oa : mi_in (k : Int) := ⟨by omega, by omega⟩
    refine mt_stC hH.1.1.1 oa o2 o3 ?_ ?_ ?_
    · intro c1 h1 s1 s2 s3
      obtain ⟨j, hj⟩ := st_endl hL hA hSb hH (Or.inr (by omega))
      exact out h h1 j q2 q3 o2 o3 hj s1 s2 s3
    · intro b c1 c2 h1 s1 s2 s3
      obtain ⟨j, hj⟩ := st_endl hL hA hSb hH (Or.inl c2)
      exact out h h1 j q2 q3 o2 o3 hj s1 s2 s3
    · intro b c1 c2 h1 s1 s2 s3
      obtain ⟨⟨⟨b1, b2, b3⟩, i3, i5, i6⟩, l1, l2⟩ := hH
      have eX : rX h1 = rX h := rX_fr s3 b1 rfl
      have eL : lX h1 = lX h := lX_fr s3 b1 rfl
      have B1 : st_B hb W h1 := ⟨s1, b2.trans (s3.wide (fun c hc => ab_swr_ok (by decide) hc)), (funext fun i => me_b (k := 138) s3 b1 rfl rfl).trans b3⟩
      refine st95l (W := W) (X := rX h) (L := lX h) hβ hL hSb (fun F hF => ?_) oa o3 (fun h2 w2 => ?_) 61 0 h1 (by decide) (by decide) b63.1 ⟨⟨B1, eX, s2, fun u u0 u1 => by omega⟩, eL, fun u u0 u1 => by omega⟩
      · rw [(i3 F (by omega)).2.2]
        exact sr_k_1000 k F
      · refine st116l (W := W) (X := rX h) (L := lX h) (β := β) hL hSb oa o3 (fun h3 w3 => ?_) 81 0 h2 (by decide) (by decide) b64'.1 ⟨⟨w2.1, fun a a0 a1 => by omega⟩, w2.2.1, w2.2.2, fun a a0 a1 => by omega⟩
        obtain ⟨⟨⟨y1, y2, y3, y4⟩, y5⟩, n1, n2, n3⟩ := w3
        refine st137l (W := W) (X := rX h) (L := lX h) (β := β) hL hA hSb oa ⟨by omega, by omega⟩ o3 (fun h4 zb ob w4 => ?_) 81 0 h3 (by decide) (by decide) b80.1 ⟨⟨y1, y4, y5, fun F hF => by omega, fun F _ => by rw [y2]; exact ⟨rfl, rfl, rfl⟩, fun _ F hF => by omega⟩, n3, fun F hF => by omega, fun F _ => by rw [n1], fun _ F hF => by omega⟩
        obtain ⟨⟨z1, z2, z3, z4, z5, z6⟩, p1, p2, p3, p4⟩ := w4
        have ek : (k : Int) + 1 = ((k + 1 : Nat) : Int) := by omega
        rw [ek]
        have N4 : sp_eq (mi_f hb 13965).toNat (rX h4) (sr_k (GR (mi_a hb)) (k + 1)) := by
          have a : sp_eq (mi_f hb 13965).toNat (rX h4) (sr (GR (mi_a hb)) (rX h)) := fun F hF => z4 F (by omega)
          exact a.trans (sr_eq hG i3)
        have EL : ∀ F : Nat, (F : Int) < mi_f hb 13965 → sl_f β (rX h) (lX h) (GR (mi_a hb) F) = lr_k β (GR (mi_a hb)) (k + 1) F := fun F hF => sl_f_eq (n := (mi_f hb 13965).toNat) i3 (fun F' hF' => l1 F' (by omega)) (fun us hu => (hG F (by omega) us hu).1)
        refine ih (k + 1) _ _ h4 (by omega) (by omega) (me_oi ob) o3 ⟨⟨z1, N4, fun q => by omega, fun j ej => ?_⟩, fun F hF => (p2 F hF).trans (EL F hF), fun j ej => ?_⟩
        · have : j = k := by omega
          subst this
          refine ⟨fun q => ?_, rX h, i3, z2⟩
          have a : sp_eq (mi_f hb 13965).toNat (sr (GR (mi_a hb)) (rX h)) (rX h) := fun F hF => z6 q F (by omega)
          exact ((sr_eq hG i3).symm.trans a).trans i3
        · have : j = k := by omega
          subst this
          exact ⟨fun q F hF => ((EL F hF).symm.trans (p4 q F hF)).trans (l1 F hF), rX h, i3, z3⟩
end STL
/-! the reference's behind: what follows parts -/
/-- what is behind a part in its line -/
def ro_ok (ρ : Int → List Int) : List Int → Prop
  | [] => True
  | x :: r => r = ρ x ∧ ro_ok ρ r
def fw_v (g : wk_g) (ρ : Int → List Int) (X : sp_X) (b : Int64) (u : Int) : Int64 := sk_r X b ((ρ u).map (rv_p g))
theorem ro_drop {ρ : Int → List Int} : ∀ (N : Nat) (row : List Int), ro_ok ρ row → ro_ok ρ (row.drop N) := by
  intro N
  induction N with
  | zero => intro row h; exact h
  | succ N ih =>
    intro row h
    cases row with
    | nil => exact trivial
    | cons x r => exact ih r h.2
section BEF
variable {d : Nat} {h0 : sm_H} {za : Int} {zx : Int64} {X : sp_X} {Y : wk_Y} {ρ : Int → List Int}
theorem bex12f {row : List Int} (hro : ro_ok ρ row) (hL : wk_L (mi_a h0) Y) (hS0 : ab_Sh sx_sk h0) (oa : mi_in za) (hlen : (row.length : Int) ≤ 60) (hrow : ∀ x ∈ row, (0 ≤ x ∧ x < wk_u Y) ∧ rq_ok (rv_p (mi_a h0)) X h0 x) : ∀ (N : Nat) (zk : Int) (zg : Int64) (q7 q8 q9 q10 : Option mi_V) (h : sm_H), zk = (N : Int) - 1 → N ≤ row.length → zg = sk_r X zx ((row.drop N).map (rv_p (mi_a h0))) → ab_Sh sx_sk h → ab_Fr be_W h0 h → (∀ k : Nat, k < row.length → some (mi_a h 145 k) = row[k]?) → (∀ x ∈ row.drop N, mx_b h 137 x.toNat = fw_v (mi_a h0) ρ X zx x) → (∀ i, (∀ x ∈ row, x.toNat ≠ i) → mx_b h 137 i = mx_b h0 137 i) → (∀ v, q7 = some v → mi_ok v) → (∀ v, q8 = some v → mi_ok v) → (∀ v, q9 = some v → mi_ok v) → (∀ v, q10 = some v → mi_ok v) → me_E (d + 1) 200 12 [some (.inr (.inr 109)), some (.inl za), some (.inr (.inl zx)), none, some (.inr (.inl zg)), none, some (.inl zk), q7, q8, q9, q10] [] h (fun w h' => w = none ∧ ab_Sh sx_sk h' ∧ ab_Fr be_W h0 h' ∧ (∀ x ∈ row, mx_b h' 137 x.toNat = fw_v (mi_a h0) ρ X zx x) ∧ ∀ i, (∀ x ∈ row, x.toNat ≠ i) → mx_b h' 137 i = mx_b h0 137 i) := by
  have h60 := hL.1
  have h80 := hL.2.1
  intro N
  induction N with
  | zero =>
    intro zk zg q7 q8 q9 q10 h ek hN eg hS hF hr hW hc o7 o8 o9 o10
    refine mt_beC hS oa ⟨by omega, by omega⟩ o7 o8 o9 o10 ?_ ?_ ?_
    · intro c1 h1 g1 g2
      have e0 := me_nil g2
      subst e0
      exact ⟨rfl, hS, hF, hW, hc⟩
    · intro c1; exfalso; omega
    · intro c1; exfalso; omega
  | succ N ih =>
    intro zk zg q7 q8 q9 q10 h ek hN eg hS hF hr hW hc o7 o8 o9 o10
    have ek : zk = (N : Int) := by omega
    have ok : mi_in zk := ⟨by omega, by omega⟩
    have ekn : zk.toNat = N := by omega
    have hlt : N < row.length := by omega
    have hu1 : some (mi_a h 145 N) = row[N]? := hr N hlt
    obtain ⟨u, hu⟩ : ∃ u, u = mi_a h 145 N := ⟨_, rfl⟩
    rw [← hu, List.getElem?_eq_getElem hlt] at hu1
    have hu2 : row[N] = u := (Option.some.inj hu1).symm
    have hm : u ∈ row := by rw [← hu2]; exact List.getElem_mem hlt
    obtain ⟨⟨u0, u1⟩, k1, k2⟩ := hrow u hm
    have edrop : row.drop N = u :: row.drop (N + 1) := by rw [List.drop_eq_getElem_cons hlt, hu2]
    have erho : row.drop (N + 1) = ρ u := by
      have := ro_drop N row hro
      rw [edrop] at this
      exact this.1
    have e145 : mi_a h 145 zk.toNat = u := by rw [ekn]; exact hu.symm
    have e := rv_eq_fr hF hS0 (by rfl)
    have p131 : mi_a h 131 u.toNat = sp_v X (rv_p (mi_a h0) u) := (me_a (k := 131) hF hS0 rfl rfl).trans k1
    have p134 : mx_b h 134 u.toNat = sp_s X (rv_p (mi_a h0) u) := (me_b (k := 134) hF hS0 rfl rfl).trans k2
    obtain ⟨-, -, -, a6, a7, a8⟩ := hL.2.2.1 u u0 u1
    have ou : mi_in u := ⟨by omega, by omega⟩
    have w122 : (rv_p (mi_a h0) u).2.2.1 = (if 0 < mi_a h 122 u.toNat then (if mi_a h 122 u.toNat = 1 then (1 : Int) else 2) else 0) := by
      rw [e 122 (by decide)]
      rfl
    have nt : rv_t (mi_a h0) u = -1 ∨ (0 ≤ rv_t (mi_a h0) u ∧ rv_t (mi_a h0) u < 80) := by
      unfold rv_t
      by_cases c10 : mi_a h0 119 u.toNat = 10
      · rw [if_pos c10]
        have := a7 c10
        omega
      · rw [if_neg c10]
        by_cases c9 : mi_a h0 119 u.toNat = 9
        · rw [if_pos c9]
          obtain ⟨-, -, -, -, b5, b6, -⟩ := a6 c9
          have b5 : 0 ≤ mi_a h0 114 (mi_a h0 115 (mi_a h0 120 u.toNat).toNat).toNat := b5
          have b6 : mi_a h0 114 (mi_a h0 115 (mi_a h0 120 u.toNat).toNat).toNat < wk_f Y := b6
          omega
        · rw [if_neg c9]
          exact Or.inl rfl
    /- from 63 on -/
    have t63 : ∀ (zi : Int64) (h1 : sm_H), ab_Sh sx_sk h1 → (∀ i, mx_b h1 137 i = if i = u.toNat then zg else mx_b h 137 i) → ab_Fr [(17536, 17537)] h h1 → me_E (d + 1) 200 63 [some (.inr (.inr 109)), some (.inl za), some (.inr (.inl zx)), none, some (.inr (.inl zg)), none, some (.inl zk), some (.inl u), some (.inr (.inl zi)), none, q10] [] h1 (fun w h' => w = none ∧ ab_Sh sx_sk h' ∧ ab_Fr be_W h0 h' ∧ (∀ x ∈ row, mx_b h' 137 x.toNat = fw_v (mi_a h0) ρ X zx x) ∧ ∀ i, (∀ x ∈ row, x.toNat ≠ i) → mx_b h' 137 i = mx_b h0 137 i) := by
      intro zi h1 s1 s137 s2
      have F1 : ab_Fr be_W h0 h1 := hF.trans (s2.wide (fun c hc => ab_swr_ok (by decide) hc))
      have e1 := rv_eq_fr F1 hS0 (by rfl)
      have t120 : ∀ zn, zn = rv_t (mi_a h0) u → me_E (d + 1) 200 120 [some (.inr (.inr 109)), some (.inl za), some (.inr (.inl zx)), none, some (.inr (.inl zg)), none, some (.inl zk), some (.inl u), some (.inr (.inl zi)), none, some (.inl zn)] [] h1 (fun w h' => w = none ∧ ab_Sh sx_sk h' ∧ ab_Fr be_W h0 h' ∧ (∀ x ∈ row, mx_b h' 137 x.toNat = fw_v (mi_a h0) ρ X zx x) ∧ ∀ i, (∀ x ∈ row, x.toNat ≠ i) → mx_b h' 137 i = mx_b h0 137 i) := by
        intro zn en
        rw [← en] at nt
        have on : mi_in zn := ⟨by omega, by omega⟩
        have fin : ∀ h3, ab_Sh sx_sk h3 → ab_Fr [(13999, 14000), (17664, 17665)] h1 h3 → ∃ Q1, me_E (d + 0) 198 0 (mi_entry 2 [.inr (.inr 109), .inl u]) [] h3 Q1 ∧ ∀ w h4, (∀ v, w = some v → mi_ok v) → Q1 w h4 → me_E (d + 1) 200 183 [some (.inr (.inr 109)), some (.inl za), some (.inr (.inl zx)), none, some (.inr (.inl zg)), none, some (.inl zk), some (.inl u), some (.inr (.inl zi)), none, some (.inl zn)] (mi_back w []) h4 (fun w h' => w = none ∧ ab_Sh sx_sk h' ∧ ab_Fr be_W h0 h' ∧ (∀ x ∈ row, mx_b h' 137 x.toNat = fw_v (mi_a h0) ρ X zx x) ∧ ∀ i, (∀ x ∈ row, x.toNat ≠ i) → mx_b h' 137 i = mx_b h0 137 i) := by
          intro h3 t1 t2
          have F13 : ab_Fr be_W h h3 := (s2.wide (fun c hc => ab_swr_ok (by decide) hc)).trans (t2.wide (fun c hc => ab_swr_ok (by decide) hc))
          have F3 : ab_Fr be_W h0 h3 := hF.trans F13
          have r3 : ∀ k : Nat, k < row.length → some (mi_a h3 145 k) = row[k]? := fun k hk => by
            rw [me_a (k := 145) t2 s1 rfl rfl, me_a (k := 145) s2 hS rfl rfl]
            exact hr k hk
          have a131 : mi_a h3 131 u.toNat = sp_v X (rv_p (mi_a h0) u) := (me_a (k := 131) F13 hS rfl rfl).trans p131
          have a134 : mx_b h3 134 u.toNat = sp_s X (rv_p (mi_a h0) u) := (me_b (k := 134) F13 hS rfl rfl).trans p134
          have a122 : mi_a h3 122 u.toNat = mi_a h 122 u.toNat := me_a (k := 122) F13 hS rfl rfl
          have v137 : ∀ i, mx_b h3 137 i = if i = u.toNat then zg else mx_b h 137 i := fun i => (me_b (k := 137) t2 s1 rfl rfl).trans (s137 i)
          have W3 : ∀ x ∈ row.drop N, mx_b h3 137 x.toNat = fw_v (mi_a h0) ρ X zx x := by
            rw [edrop]
            intro x hx
            rw [v137]
            by_cases c : x.toNat = u.toNat
            · have x0 : 0 ≤ x := by
                rcases List.mem_cons.mp hx with q | q
                · omega
                · exact (hrow x (List.mem_of_mem_drop q)).1.1
              have ex : x = u := by omega
              rw [if_pos c, eg, erho, ex]
              rfl
            · rw [if_neg c]
              rcases List.mem_cons.mp hx with q | q
              · rw [q] at c; exact absurd rfl c
              · exact hW x q
          have C3 : ∀ i, (∀ x ∈ row, x.toNat ≠ i) → mx_b h3 137 i = mx_b h0 137 i := fun i hi => by
            rw [v137, if_neg (fun q => hi u hm q.symm)]
            exact hc i hi
          refine ⟨_, me_isVoidx (d := d + 0) t1 u0 (by omega), fun w h4 oww hq => ?_⟩
          obtain ⟨rfl, z, rfl, z01, hz⟩ := hq
          have ie : z = 1 ↔ sp_e X (rv_p (mi_a h0) u) := by
            rw [hz, a131, a122]
            show _ ↔ (rv_p (mi_a h0) u).2.2.1 ≠ 0 ∨ _
            rw [w122]
            by_cases c : 0 < mi_a h 122 u.toNat
            · rw [if_pos c]
              exact ⟨fun _ => Or.inl (by split <;> decide), fun _ => Or.inl c⟩
            · rw [if_neg c]
              exact ⟨fun q => q.elim (fun q => absurd q c) Or.inr, fun q => q.elim (fun q => absurd rfl q) Or.inr⟩
          refine mt_beG t1 oa ok ou on ⟨by omega, by omega⟩ ?_ ?_
          · intro b0
            refine ⟨by omega, fun h5 g1 g2 => ?_⟩
            have e0 := me_nil g2
            subst e0
            refine ih (zk + (-1)) _ _ _ _ _ h5 (by omega) (by omega) ?_ t1 F3 r3 W3 C3 (me_oi ou) (fun v q => by cases q; trivial) me_on (me_oi on)
            rw [a134, edrop, List.map_cons]
            rw [sk_r_c]
            rw [if_neg (fun q => by have := ie.mpr q; omega)]
          · intro b0
            refine ⟨by omega, fun h5 g1 g2 => ?_⟩
            have e0 := me_nil g2
            subst e0
            refine ih (zk + (-1)) _ _ _ _ _ h5 (by omega) (by omega) ?_ t1 F3 r3 W3 C3 (me_oi ou) (fun v q => by cases q; trivial) me_on (me_oi on)
            rw [a134, edrop, List.map_cons, eg, or_cm]
            show _ = sk_r X zx (rv_p (mi_a h0) u :: (row.drop (N + 1)).map (rv_p (mi_a h0)))
            rw [sk_r, if_pos (ie.mp (by omega))]
        have t160 : ∀ h2, ab_Sh sx_sk h2 → ab_Fr [(13999, 14000)] h1 h2 → me_E (d + 1) 200 160 [some (.inr (.inr 109)), some (.inl za), some (.inr (.inl zx)), none, some (.inr (.inl zg)), none, some (.inl zk), some (.inl u), some (.inr (.inl zi)), none, some (.inl zn)] [] h2 (fun w h' => w = none ∧ ab_Sh sx_sk h' ∧ ab_Fr be_W h0 h' ∧ (∀ x ∈ row, mx_b h' 137 x.toNat = fw_v (mi_a h0) ρ X zx x) ∧ ∀ i, (∀ x ∈ row, x.toNat ≠ i) → mx_b h' 137 i = mx_b h0 137 i) := by
          intro h2 t1 t2
          refine mt_beF t1 oa ok ou on ?_ ?_
          · intro b0 h3 g1 g2
            have e0 := me_nil g2
            subst e0
            exact fin h3 t1 (t2.wide (fun c hc => ab_swr_ok (by decide) hc))
          · intro b0
            exact ⟨by omega, fun h3 v1 v2 v3 => fin h3 v1 ((t2.wide (fun c hc => ab_swr_ok (by decide) hc)).trans (v3.wide (fun c hc => ab_swr_ok (by decide) hc)))⟩
        refine mt_beE s1 oa ok ou on ?_ ?_ ?_ ?_
        · intro b b0 h2 t1 t2 t3
          exact t160 h2 t1 t3
        · intro b b0 b1 h2 t1 t2 t3
          exact t160 h2 t1 t3
        · intro b b0 b1 b2
          exact ⟨by omega, fun h2 t1 t2 t3 => t160 h2 t1 t3⟩
        · intro b b0 b1 b2
          exact ⟨by omega, fun h2 t1 t2 t3 => t160 h2 t1 t3⟩
      have r119 : mi_a h1 119 u.toNat = mi_a h0 119 u.toNat := by rw [e1 119 (by decide)]
      have r120 : mi_a h1 120 = mi_a h0 120 := e1 120 (by decide)
      have r115 : mi_a h1 115 = mi_a h0 115 := e1 115 (by decide)
      have r114 : mi_a h1 114 = mi_a h0 114 := e1 114 (by decide)
      refine mt_beD s1 oa ok ou o10 ?_ ?_ ?_
      · intro b1 b2
        refine ⟨by omega, fun h2 g1 g2 => ?_⟩
        have e0 := me_nil g2
        subst e0
        refine t120 _ ?_
        unfold rv_t
        rw [r119] at b1 b2
        rw [if_neg b1, if_neg b2]
      · intro b1 b2
        rw [r119] at b1 b2
        obtain ⟨d1, d2, d3, d4, -⟩ := a6 b2
        rw [r120, r115, r114]
        refine ⟨by omega, fun h2 g1 g2 => ?_⟩
        have e0 := me_nil g2
        subst e0
        refine t120 _ ?_
        unfold rv_t
        rw [if_neg b1, if_pos b2]
      · intro b1
        rw [r119] at b1
        rw [r120]
        refine ⟨by omega, fun h2 g1 g2 => ?_⟩
        have e0 := me_nil g2
        subst e0
        refine t120 _ ?_
        unfold rv_t
        rw [if_pos b1]
    refine mt_beC hS oa ok o7 o8 o9 o10 ?_ ?_ ?_
    · intro c1; exfalso; omega
    · intro c1 c2
      rw [e145] at c2 ⊢
      exact ⟨by omega, fun h1 s1 s2 s3 => t63 _ h1 s1 s2 s3⟩
    · intro c1 c2
      rw [e145] at c2 ⊢
      exact ⟨by omega, fun h1 s1 s2 s3 => t63 _ h1 s1 s2 s3⟩
def rr_l (g : wk_g) (a : Int) : List Int := wk_row g 61 (g 126 a.toNat)
def be_F (ρ : Int → List Int) (X : sp_X) (h : sm_H) (zx : Int64) (row : List Int) (w : Option mi_V) (h' : sm_H) : Prop := w = none ∧ ab_Sh sx_sk h' ∧ ab_Fr be_W h h' ∧ (∀ x ∈ row, mx_b h' 137 x.toNat = fw_v (mi_a h) ρ X zx x) ∧ ∀ i, (∀ x ∈ row, x.toNat ≠ i) → mx_b h' 137 i = mx_b h 137 i
theorem me_behindf (hro : ro_ok ρ (rr_l (mi_a h0) za)) (hL : wk_L (mi_a h0) Y) (hS0 : ab_Sh sx_sk h0) (a0 : 0 ≤ za) (a1 : za < 80) (hu : mi_a h0 126 za.toNat < 0 ∨ mi_a h0 126 za.toNat < wk_u Y) (hp : ∀ u, 0 ≤ u → u < wk_u Y → rq_ok (rv_p (mi_a h0)) X h0 u) : me_E (d + 1) 200 0 [some (.inr (.inr 109)), some (.inl za), some (.inr (.inl zx)), none, none, none, none, none, none, none, none] [] h0 (be_F ρ X h0 zx (rr_l (mi_a h0) za)) := by
  have oa : mi_in za := ⟨by omega, by omega⟩
  have hC := wk_L_C hL
  refine mt_beA hS0 oa ?_
  intro h1 g1 g2
  have e := me_nil g2
  subst e
  refine ⟨_, me_line g1 hC a0 a1 hu, fun w h2 ow hq => ?_⟩
  obtain ⟨q1, q2, rfl, q4, q5⟩ := hq
  refine mt_beB q1 oa ⟨by omega, by omega⟩ ⟨by omega, fun h3 r1 r2 => ?_⟩
  have e := me_nil r2
  subst e
  have q2' : ab_Fr be_W h1 h3 := q2.wide (fun c hc => ab_swr_ok (by decide) hc)
  exact bex12f (d := d) (za := za) (zx := zx) (X := X) (row := wk_row (mi_a h1) 61 (mi_a h1 126 za.toNat)) hro hL hS0 oa q4 (fun x hx => by
    obtain ⟨k, hk⟩ := List.getElem?_of_mem hx
    have := q5 k x hk
    exact ⟨⟨this.2.1, this.2.2⟩, hp x this.2.1 this.2.2⟩) (wk_row (mi_a h1) 61 (mi_a h1 126 za.toNat)).length _ zx none none none none h3 rfl (Nat.le_refl _) (by rw [List.drop_length]; rfl) r1 q2' (fun k hk => by
    have := q5 k _ (List.getElem?_eq_getElem hk)
    rw [List.getElem?_eq_getElem hk, this.1]) (fun x hx => by rw [List.drop_length] at hx; cases hx) (fun i _ => me_b (k := 137) q2 hS0 rfl rfl) me_on me_on me_on me_on
end BEF
/-! the reference's study: the second rounds, with what follows each unit -/
def fr_of (hb : sm_H) (F : Nat) (u : Int) : Prop := ∃ j : Nat, (j : Int) < mi_a hb 130 F ∧ u ∈ rr_l (mi_a hb) (wk_alt (mi_a hb) j (mi_a hb 129 F))
def fo_r (hb : sm_H) (ρ : Int → List Int) (X : sp_X) (A B : sp_F) (h : sm_H) (F : Nat) (u : Int) : Prop := ∃ b, tl (A F) b ∧ tl b (B F) ∧ mx_b h 137 u.toNat = fw_v (mi_a hb) ρ X b u
def rh_ok (hb : sm_H) (ρ : Int → List Int) : Prop := ∀ F : Nat, (F : Int) < mi_f hb 13965 → ∀ j : Nat, (j : Int) < mi_a hb 130 F → ro_ok ρ (rr_l (mi_a hb) (wk_alt (mi_a hb) j (mi_a hb 129 F)))
theorem wk_row_c {g : wk_g} {Y : wk_Y} (hL : wk_L g Y) : ∀ (n : Nat) (u : Int), (u < 0 ∨ u < wk_u Y) → ∀ x ∈ wk_row g n u, (0 ≤ x ∧ x < wk_u Y) ∧ wk_c Y x = wk_c Y u := by
  intro n
  induction n with
  | zero => intro u _ x hx; cases hx
  | succ n ih =>
    intro u hu x hx
    unfold wk_row at hx
    by_cases n0 : u < 0
    · rw [if_pos n0] at hx; cases hx
    · rw [if_neg n0] at hx
      have u1 := hu.resolve_left n0
      obtain ⟨-, a2, a3, -⟩ := hL.2.2.1 u (by omega) u1
      have nx : ∀ x ∈ wk_row g n (g 125 u.toNat), (0 ≤ x ∧ x < wk_u Y) ∧ wk_c Y x = wk_c Y u := by
        intro x hx
        by_cases q : 0 ≤ g 125 u.toNat
        · have a := a3 q
          have b := ih _ (Or.inr a.1) x hx
          exact ⟨b.1, b.2.trans a.2.1⟩
        · cases n with
          | zero => cases hx
          | succ n =>
            unfold wk_row at hx
            rw [if_pos (by omega)] at hx
            cases hx
      by_cases c4 : 0 ≤ g 124 u.toNat
      · rw [if_pos c4] at hx
        rcases List.mem_cons.mp hx with rfl | hx
        · exact ⟨⟨by omega, u1⟩, rfl⟩
        · rcases List.mem_cons.mp hx with rfl | hx
          · have a := a2 c4
            exact ⟨⟨c4, a.1⟩, a.2.1⟩
          · exact nx x hx
      · rw [if_neg c4] at hx
        rcases List.mem_cons.mp hx with rfl | hx
        · exact ⟨⟨by omega, u1⟩, rfl⟩
        · exact nx x hx
theorem fr_c {hb : sm_H} {Y : wk_Y} (hL : wk_L (mi_a hb) Y) {F : Nat} (hF : (F : Int) < wk_f Y) {u : Int} (h : fr_of hb F u) : (0 ≤ u ∧ u < wk_u Y) ∧ wk_c Y u = F := by
  obtain ⟨j, hj, hu⟩ := h
  obtain ⟨-, -, -, -, -, c3⟩ := hL.2.2.2 F (by omega) hF
  have k := (c3 j hj).2.2
  rcases k with k | ⟨k1, k2⟩
  · have k : mi_a hb 126 (wk_alt (mi_a hb) j (mi_a hb 129 F)).toNat < 0 := k
    unfold rr_l wk_row at hu
    rw [if_pos k] at hu
    cases hu
  · have k1 : mi_a hb 126 (wk_alt (mi_a hb) j (mi_a hb 129 F)).toNat < wk_u Y := k1
    have k2 : wk_c Y (mi_a hb 126 (wk_alt (mi_a hb) j (mi_a hb 129 F)).toNat) = F := k2
    have := wk_row_c hL 61 _ (Or.inr k1) u hu
    exact ⟨this.1, this.2.trans k2⟩
theorem rr_l_eq {h h' : sm_H} (e : rv_eq h h') : rr_l (mi_a h') = rr_l (mi_a h) := by
  funext a
  unfold rr_l
  rw [wk_row_cg (e 124 (by decide)) (e 125 (by decide)), e 126 (by decide)]
theorem fw_v_eq {h h' : sm_H} {ρ : Int → List Int} {X : sp_X} (e : rv_eq h h') (b : Int64) (u : Int) : fw_v (mi_a h') ρ X b u = fw_v (mi_a h) ρ X b u := by
  unfold fw_v
  rw [e.p]
section SZF
variable {d : Nat} {hb h0 : sm_H} {Y : wk_Y} {X : sp_X} {Q : Option mi_V → sm_H → Prop} {ρ : Int → List Int}
def sR_I (hb : sm_H) (ρ : Int → List Int) (X : sp_X) (Wk WN : sp_F) (F : Nat) (J : Nat) (h : sm_H) : Prop := sw_le (mi_f hb 13965).toNat Wk (mx_b h 138) ∧ (∀ F' : Nat, F' < F → ∀ u, fr_of hb F' u → fo_r hb ρ X Wk WN h F' u) ∧ ∀ j : Nat, j < J → (j : Int) < mi_a hb 130 F → ∀ u ∈ rr_l (mi_a hb) (wk_alt (mi_a hb) j (mi_a hb 129 F)), fo_r hb ρ X Wk WN h F u
theorem fo_r_fr {A B : sp_F} {h h' : sm_H} {F : Nat} {u : Int} (k : fo_r hb ρ X A B h F u) (e : mx_b h' 137 u.toNat = mx_b h 137 u.toNat) : fo_r hb ρ X A B h' F u := by
  obtain ⟨b, b1, b2, b3⟩ := k
  exact ⟨b, b1, b2, e.trans b3⟩
theorem sz205f {za : Int} {F : Nat} {Wk WN : sp_F} {c : Nat} (hρ : rh_ok hb ρ) (hL : sy_L hb Y) (hSb : ab_Sh sx_sk hb) (hF : (F : Int) < mi_f hb 13965) (oa : mi_in za) (K : ∀ h zb zc, zb = (F : Int) + 1 → mi_in zc → sz_B hb X h0 h → sk_p X (GR (mi_a hb)) c (F + 1) (mx_b h 138) = WN → (mi_f h 13999 = 0 → mx_b h 138 = Wk) → sR_I hb ρ X Wk WN (F + 1) 0 h → me_E (d + 3) 194 190 [some (.inr (.inr 109)), some (.inl za), some (.inl zb), some (.inl zc)] [] h Q) : ∀ (m j : Nat) (zc : Int) (h : sm_H), j + m = (mi_a hb 130 F).toNat → zc = wk_alt (mi_a hb) j (mi_a hb 129 F) → mi_in zc → sz_B hb X h0 h → sk_p X (GR (mi_a hb)) c (F + 1) (sk_f X F (rv_as (mi_a hb) m zc) (mx_b h 138)) = WN → (mi_f h 13999 = 0 → mx_b h 138 = Wk) → sR_I hb ρ X Wk WN F j h → me_E (d + 3) 194 205 [some (.inr (.inr 109)), some (.inl za), some (.inl (F : Int)), some (.inl zc)] [] h Q := by
  have b80 := me_fb (c := 13965) hSb rfl
  have hF' : (F : Int) < wk_f Y := by rw [hL.2.2.1]; exact hF
  obtain ⟨-, -, c1, c2, -, c3⟩ := hL.1.2.2.2 F (by omega) hF'
  have of : mi_in (F : Int) := ⟨by omega, by omega⟩
  intro m
  induction m with
  | zero =>
    intro j zc h hj ezc oc hB hW hk hI
    have ej : j = (mi_a hb 130 F).toNat := by omega
    have neg : zc < 0 := by
      have c2 : wk_alt (mi_a hb) (mi_a hb 130 F).toNat (mi_a hb 129 F) < 0 := c2
      rw [← ej, ← ezc] at c2
      exact c2
    refine mt_stL hB.1 oa of oc ?_ ?_
    · intro k1
      refine ⟨⟨by omega, by omega⟩, fun h1 g1 g2 => ?_⟩
      have e0 := me_nil g2
      subst e0
      refine K h1 _ _ rfl oc hB hW hk ⟨hI.1, fun F1 hF1 u hu => ?_, fun j hj => by omega⟩
      by_cases cF : F1 = F
      · subst cF
        obtain ⟨i, hi, hu⟩ := hu
        exact hI.2.2 i (by omega) hi u hu
      · exact hI.2.1 F1 (by omega) u hu
    · intro k1; exfalso; omega
  | succ m ih =>
    intro j zc h hj ezc oc hB hW hk hI
    have lt : (j : Int) < mi_a hb 130 F := by omega
    have bd := c3 j lt
    have bd : 0 ≤ wk_alt (mi_a hb) j (mi_a hb 129 F) ∧ wk_alt (mi_a hb) j (mi_a hb 129 F) < 80 ∧ (mi_a hb 126 (wk_alt (mi_a hb) j (mi_a hb 129 F)).toNat < 0 ∨ (mi_a hb 126 (wk_alt (mi_a hb) j (mi_a hb 129 F)).toNat < wk_u Y ∧ _)) := bd
    have hr0 := hρ F hF j lt
    rw [← ezc] at bd hr0
    obtain ⟨b1, b2, b3, b4⟩ := id hB
    have e : rv_eq hb h := rv_eq_fr b2 hSb rfl
    have hL1 := sy_L_fr hL hSb b2
    have e63 : mi_f h 13963 = mi_f hb 13963 := me_f (c := 13963) b2 hSb rfl rfl
    refine mt_stL b1 oa of oc ?_ ?_
    · intro k1; exfalso; omega
    · intro k1
      refine ⟨by omega, fun h1 g1 g2 => ?_⟩
      have e0 := me_nil g2
      subst e0
      have hu1 : mi_a h1 126 zc.toNat < 0 ∨ mi_a h1 126 zc.toNat < wk_u Y := by rw [e 126 (by decide)]; rcases bd.2.2 with q | q <;> omega
      have hp1 : ∀ u, 0 ≤ u → u < wk_u Y → rq_ok (rv_p (mi_a h1)) X h1 u := fun u u0 u1 => by rw [e.p]; exact b4 u u0 (by rw [hL1.2.1, e63] at u1; exact u1)
      refine ⟨_, (me_behindx (d := d + 1) (X := X) (zx := mx_b h1 138 F) hL1.1 b1 bd.1 bd.2.1 hu1 hp1).and (me_behindf (d := d + 1) (ρ := ρ) (X := X) (zx := mx_b h1 138 F) (by rw [rr_l_eq e]; exact hr0) hL1.1 b1 bd.1 bd.2.1 hu1 hp1), fun w h2 oww hq => ?_⟩
      obtain ⟨⟨rfl, r2, r3, r4, r5⟩, -, -, -, r6, r7⟩ := hq
      rw [e.l] at r4
      rw [rr_l_eq e] at r6 r7
      have B2 := sz_B_fr hB r2 r3 (fun _ hc => hc)
      have e2 : rv_eq hb h2 := rv_eq_fr B2.2.1 hSb rfl
      refine mt_stM r2 oa of oc ⟨by omega, fun h3 g1 g2 => ?_⟩
      have e0 := me_nil g2
      subst e0
      have e128 : mi_a h3 128 zc.toNat = mi_a hb 128 zc.toNat := by rw [e2 128 (by decide)]
      have lo : tl (Wk F) (mx_b h1 138 F) := hI.1 F (by omega)
      have hi : tl (mx_b h1 138 F) (WN F) := by
        rw [← hW]
        exact tl_tr (sk_f_le (X := X) (n := (mi_f hb 13965).toNat) (f := F) (rv_as (mi_a hb) (m + 1) zc) (mx_b h1 138) F (by omega)) (sk_p_le (X := X) (n := (mi_f hb 13965).toNat) (G := GR (mi_a hb)) c (F + 1) _ F (by omega))
      have new : ∀ u ∈ rr_l (mi_a hb) zc, fo_r hb ρ X Wk WN h3 F u := fun u hu => ⟨_, lo, hi, by rw [r6 u hu, fw_v_eq e]⟩
      have I3 : sR_I hb ρ X Wk WN F (j + 1) h3 := by
        refine ⟨fun i hi => ?_, fun F1 hF1 u hu => ?_, fun i hi1 hi2 u hu => ?_⟩
        · rw [r4]
          exact tl_tr (hI.1 i hi) (tl_l _ _)
        · have k := hI.2.1 F1 hF1 u hu
          refine fo_r_fr k (r7 _ (fun x hx q => ?_))
          have x1 := fr_c hL.1 hF' (u := x) ⟨j, lt, by rw [← ezc]; exact hx⟩
          have x2 := fr_c hL.1 (F := F1) (by omega) hu
          have : x = u := by omega
          rw [this] at x1
          omega
        · by_cases ci : i = j
          · rw [ci, ← ezc] at hu
            exact new u hu
          · have k := hI.2.2 i (by omega) hi2 u hu
            by_cases cu : u ∈ rr_l (mi_a hb) zc
            · exact new u cu
            · refine fo_r_fr k (r7 _ (fun x hx q => ?_))
              have x1 := fr_c hL.1 hF' (u := x) ⟨j, lt, by rw [← ezc]; exact hx⟩
              have x2 := fr_c hL.1 hF' (u := u) ⟨i, hi2, hu⟩
              have : x = u := by omega
              rw [this] at hx
              exact cu hx
      rw [e128]
      refine ih (j + 1) _ h3 (by omega) (by rw [wk_alt_succ, ezc]) (mi_inT _) B2 ?_ (fun q => ?_) I3
      · rw [r4]
        exact hW
      · obtain ⟨x1, x2⟩ := r5 q
        exact x2.trans (hk x1)
theorem sz190f {za : Int} {Wk WN : sp_F} (hρ : rh_ok hb ρ) (hL : sy_L hb Y) (hSb : ab_Sh sx_sk hb) (oa : mi_in za) (oa1 : mi_in (za + 1)) (K : ∀ h q2 q3, (∀ v, q2 = some v → mi_ok v) → (∀ v, q3 = some v → mi_ok v) → sz_B hb X h0 h → mx_b h 138 = WN → (mi_f h 13999 = 0 → mx_b h 138 = Wk) → sR_I hb ρ X Wk WN (mi_f hb 13965).toNat 0 h → me_E (d + 3) 194 169 [some (.inr (.inr 109)), some (.inl (za + 1)), q2, q3] [] h Q) : ∀ (c F : Nat) (q3 : Option mi_V) (h : sm_H), F + c = (mi_f hb 13965).toNat → (∀ v, q3 = some v → mi_ok v) → sz_B hb X h0 h → sk_p X (GR (mi_a hb)) c F (mx_b h 138) = WN → (mi_f h 13999 = 0 → mx_b h 138 = Wk) → sR_I hb ρ X Wk WN F 0 h → me_E (d + 3) 194 190 [some (.inr (.inr 109)), some (.inl za), some (.inl (F : Int)), q3] [] h Q := by
  have b80 := me_fb (c := 13965) hSb rfl
  intro c
  induction c with
  | zero =>
    intro F q3 h hc o3 hB hW hk hI
    have of : mi_in (F : Int) := ⟨by omega, by omega⟩
    have e65 : mi_f h 13965 = mi_f hb 13965 := me_f (c := 13965) hB.2.1 hSb rfl rfl
    refine mt_stK hB.1 oa of o3 ?_ ?_
    · intro b c1
      refine ⟨oa1, fun h1 g1 g2 => ?_⟩
      have e0 := me_nil g2
      subst e0
      have : F = (mi_f hb 13965).toNat := by omega
      rw [this] at hI
      exact K h1 _ _ (me_oi of) o3 hB hW hk hI
    · intro b c1; exfalso; omega
  | succ c ih =>
    intro F q3 h hc o3 hB hW hk hI
    have of : mi_in (F : Int) := ⟨by omega, by omega⟩
    have e65 : mi_f h 13965 = mi_f hb 13965 := me_f (c := 13965) hB.2.1 hSb rfl rfl
    have e : rv_eq hb h := rv_eq_fr hB.2.1 hSb rfl
    refine mt_stK hB.1 oa of o3 ?_ ?_
    · intro b c1; exfalso; omega
    · intro b c1
      refine ⟨by omega, fun h1 g1 g2 => ?_⟩
      have e0 := me_nil g2
      subst e0
      have e129 : mi_a h1 129 ((F : Int)).toNat = mi_a hb 129 F := by rw [e 129 (by decide)]; rfl
      rw [e129]
      exact sz205f (Wk := Wk) (WN := WN) (c := c) hρ hL hSb (by omega) oa (fun h2 zb zc ez oc hB2 hW2 hk2 hI2 => by
        rw [ez]
        exact ih (F + 1) _ h2 (by omega) (me_oi oc) hB2 hW2 hk2 hI2) (mi_a hb 130 F).toNat 0 _ h1 (by omega) rfl (mi_inT _) hB hW hk hI
theorem fo_r_end {A B W : sp_F} {h : sm_H} {F : Nat} {u : Int} (k : fo_r hb ρ X A B h F u) (e1 : A F = W F) (e2 : B F = W F) : mx_b h 137 u.toNat = fw_v (mi_a hb) ρ X (W F) u := by
  obtain ⟨b, b1, b2, b3⟩ := k
  rw [e1] at b1
  rw [e2] at b2
  rw [b3, tl_anti b2 b1]
theorem sz169f {W0 : sp_F} (hρ : rh_ok hb ρ) (hL : sy_L hb Y) (hSb : ab_Sh sx_sk hb) (K : ∀ h j q2 q3, (∀ v, q2 = some v → mi_ok v) → (∀ v, q3 = some v → mi_ok v) → sz_B hb X h0 h → mx_b h 138 = sk_k X (GR (mi_a hb)) (mi_f hb 13965).toNat W0 j → sw_sol X (mi_f hb 13965).toNat (GR (mi_a hb)) (sk_k X (GR (mi_a hb)) (mi_f hb 13965).toNat W0 j) → (∀ F : Nat, (F : Int) < mi_f hb 13965 → ∀ u, fr_of hb F u → mx_b h 137 u.toNat = fw_v (mi_a hb) ρ X (sk_k X (GR (mi_a hb)) (mi_f hb 13965).toNat W0 j F) u) → me_E (d + 3) 194 244 [some (.inr (.inr 109)), some (.inl 0), q2, q3] [] h Q) : ∀ (N k : Nat) (q2 q3 : Option mi_V) (h : sm_H), 900 - k < N → k ≤ 900 → (∀ v, q2 = some v → mi_ok v) → (∀ v, q3 = some v → mi_ok v) → sz_B hb X h0 h → mx_b h 138 = sk_k X (GR (mi_a hb)) (mi_f hb 13965).toNat W0 k → (k = 0 → mi_f h 13999 ≠ 0) → (∀ j, k = j + 1 → (mi_f h 13999 = 0 → sk_k X (GR (mi_a hb)) (mi_f hb 13965).toNat W0 (j + 1) = sk_k X (GR (mi_a hb)) (mi_f hb 13965).toNat W0 j) ∧ ∀ F : Nat, (F : Int) < mi_f hb 13965 → ∀ u, fr_of hb F u → fo_r hb ρ X (sk_k X (GR (mi_a hb)) (mi_f hb 13965).toNat W0 j) (sk_k X (GR (mi_a hb)) (mi_f hb 13965).toNat W0 (j + 1)) h F u) → me_E (d + 3) 194 169 [some (.inr (.inr 109)), some (.inl (k : Int)), q2, q3] [] h Q := by
  have b80 := me_fb (c := 13965) hSb rfl
  intro N
  induction N with
  | zero => intro k q2 q3 h hN; exfalso; omega
  | succ N ih =>
    intro k q2 q3 h hN hk o2 o3 hB hW hc0 hc1
    have oa : mi_in (k : Int) := ⟨by omega, by omega⟩
    refine mt_stJ hB.1 oa o2 o3 ?_ ?_ ?_
    · intro c1 h1 g1 g2
      have e0 := me_nil g2
      subst e0
      cases k with
      | zero => exfalso; omega
      | succ j =>
        have E := sk_k_stop (X := X) (G := GR (mi_a hb)) (n := (mi_f hb 13965).toNat) (W0 := W0) (k := j) (by omega)
        exact K h1 (j + 1) q2 q3 o2 o3 hB hW (sk_sol (sk_k_stop (by omega))) (fun F hF u hu => fo_r_end ((hc1 j rfl).2 F hF u hu) (E F (by omega)).symm rfl)
    · intro b c1 c2 h1 g1 g2
      have e0 := me_nil g2
      subst e0
      cases k with
      | zero => exact absurd c2 (hc0 rfl)
      | succ j =>
        have E := (hc1 j rfl).1 c2
        exact K h1 j q2 q3 o2 o3 hB (hW.trans E) (sk_sol (fun i hi => congrFun E i)) (fun F hF u hu => fo_r_end ((hc1 j rfl).2 F hF u hu) rfl (congrFun E F))
    · intro b c1 c2 h1 s1 s2 s3
      have B1 := sz_B_fr hB s1 s3 (fun c hc => ab_swr_ok (by decide) hc)
      have e81 : mx_b h1 138 = mx_b h 138 := funext fun i => me_b (k := 138) s3 hB.1 rfl rfl
      refine sz190f (WN := sk_k X (GR (mi_a hb)) (mi_f hb 13965).toNat W0 (k + 1)) (Wk := sk_k X (GR (mi_a hb)) (mi_f hb 13965).toNat W0 k) hρ hL hSb oa ⟨by omega, by omega⟩ (fun h2 q2 q3 o2 o3 hB2 hW2 hk2 hI2 => ?_) (mi_f hb 13965).toNat 0 _ h1 (by omega) o3 B1 ?_ (fun _ => by rw [e81]; exact hW) ⟨fun i hi => by rw [e81, hW]; exact tl_refl _, fun F' hF' => by omega, fun j hj => by omega⟩
      · have ek : (k : Int) + 1 = ((k + 1 : Nat) : Int) := by omega
        rw [ek]
        refine ih (k + 1) _ _ h2 (by omega) (by omega) o2 o3 hB2 hW2 (fun q => by omega) (fun j ej => ?_)
        have : j = k := by omega
        subst this
        exact ⟨fun q => hW2.symm.trans (hk2 q), fun F hF u hu => hI2.2.1 F (by omega) u hu⟩
      · rw [e81, hW]
        rfl
end SZF
/-! the reference's begins: closed; study, all of it -/
theorem sh_e : ∀ q : Nat, q < 10 → ((Int32.ofInt (q : Int) &&& 31).toBitVec.smod 32).toNat = q := by decide
theorem sh_v (x : Int32) {q : Nat} (hq : q < 10) : (x >>> (Int32.ofInt (q : Int) &&& 31)).toBitVec = x.toBitVec.sshiftRight q := by
  show x.toBitVec.sshiftRight' ((Int32.ofInt (q : Int) &&& 31).toBitVec.smod 32) = _
  unfold BitVec.sshiftRight'
  rw [sh_e q hq]
theorem tb_64 (x : Int32) {q : Nat} (hq : q < 10) : tb x.toInt64 q = x.toBitVec.getLsbD q := by
  unfold tb
  rw [Int32.toBitVec_toInt64, BitVec.getLsbD_signExtend]
  simp [show q < 64 by omega, show q < 32 by omega]
theorem bit_v (x : Int32) {q : Nat} (hq : q < 10) : (Int32.ofInt (x >>> (Int32.ofInt (q : Int) &&& 31)).toInt &&& Int32.ofInt 1).toInt = if tb x.toInt64 q = true then 1 else 0 := by
  have e1 : Int32.ofInt (x >>> (Int32.ofInt (q : Int) &&& 31)).toInt = x >>> (Int32.ofInt (q : Int) &&& 31) := Int32.ofInt_toInt _
  rw [e1, tb_64 x hq]
  have e2 : (x.toBitVec.sshiftRight q).getLsbD 0 = x.toBitVec.getLsbD q := by
    rw [BitVec.getLsbD_sshiftRight]
    simp [show q < 32 by omega]
  have e3 : (x >>> (Int32.ofInt (q : Int) &&& 31) &&& Int32.ofInt 1).toBitVec = if x.toBitVec.getLsbD q = true then 1#32 else 0#32 := by
    show (x >>> (Int32.ofInt (q : Int) &&& 31)).toBitVec &&& 1#32 = _
    rw [sh_v x hq, ← e2]
    refine BitVec.eq_of_getLsbD_eq (fun i hi => ?_)
    rw [BitVec.getLsbD_and]
    by_cases c : i = 0
    · subst c
      cases (x.toBitVec.sshiftRight q).getLsbD 0 <;> rfl
    · have : (1#32).getLsbD i = false := by
        rw [BitVec.getLsbD_one]
        simp [c]
      rw [this, Bool.and_false]
      cases (x.toBitVec.sshiftRight q).getLsbD 0
      · exact (BitVec.getLsbD_zero).symm
      · exact this.symm
  show ((x >>> (Int32.ofInt (q : Int) &&& 31) &&& Int32.ofInt 1).toBitVec).toInt = _
  rw [e3]
  cases x.toBitVec.getLsbD q <;> rfl
/-- the bit as both sides test it -/
theorem bit_b (z : Int) {q : Nat} (hq : q < 10) : ((Int32.ofInt (Int32.ofInt z >>> (Int32.ofInt (q : Int) &&& 31)).toInt &&& Int32.ofInt 1).toInt = 1 ↔ tb (b64 z) q = true) ∧ (k_bit z q ↔ tb (b64 z) q = true) := by
  unfold k_bit b64
  rw [bit_v (Int32.ofInt z) hq]
  cases tb (Int32.ofInt z).toInt64 q
  · exact ⟨⟨fun q => absurd q (by decide), fun q => absurd q (by decide)⟩, ⟨fun q => absurd rfl q, fun q => absurd q (by decide)⟩⟩
  · exact ⟨⟨fun _ => rfl, fun _ => rfl⟩, ⟨fun _ => rfl, fun _ => by decide⟩⟩
section WBG
variable {d : Nat} {h0 : sm_H} {E : Nat → Nat → Prop}
def bg_I (E : Nat → Nat → Prop) (h0 h : sm_H) (q : Nat) (z : Int) : Prop := ab_Sh sx_sk h ∧ ab_Fr [(14848, 14849)] h0 h ∧ ∀ r : Nat, (r : Int) < mi_f h0 13961 → ∀ b, (tb (b64 (mi_a h 116 r)) b = true ↔ if (r : Int) < z then wa E (q + 1) r b else wa E q r b)
def bg_Q (E : Nat → Nat → Prop) (h0 : sm_H) (w : Option mi_V) (h' : sm_H) : Prop := w = none ∧ ab_Sh sx_sk h' ∧ ab_Fr [(14848, 14849)] h0 h' ∧ ∀ r : Nat, (r : Int) < mi_f h0 13961 → ∀ b, (tb (b64 (mi_a h' 116 r)) b = true ↔ wa E (mi_f h0 13961).toNat r b)
theorem wa_self {q b : Nat} : wa E (q + 1) q b ↔ wa E q q b := ⟨fun h => h.elim id (fun h => h.2), Or.inl⟩
theorem s277b (hS0 : ab_Sh sx_sk h0) : ∀ (N q : Nat) (q2 q3 : Option mi_V) (h : sm_H), 10 - q < N → (q : Int) ≤ mi_f h0 13961 → (∀ v, q2 = some v → mi_ok v) → (∀ v, q3 = some v → mi_ok v) → bg_I E h0 h q 0 → me_E (d + 3) 194 277 [some (.inr (.inr 109)), some (.inl (q : Int)), q2, q3] [] h (bg_Q E h0) := by
  have b10 := me_fb (c := 13961) hS0 rfl
  intro N
  induction N with
  | zero => intro q q2 q3 h hN _; exfalso; omega
  | succ N ih =>
    intro q q2 q3 h hN a1 o2 o3 hI
    have oa : mi_in (q : Int) := ⟨by omega, by omega⟩
    have e61 : mi_f h 13961 = mi_f h0 13961 := me_f (c := 13961) hI.2.1 hS0 rfl rfl
    have s287 : (q : Int) < mi_f h0 13961 → ∀ (M : Nat) (zb : Int) (h : sm_H), 10 - zb < M → 0 ≤ zb → zb ≤ mi_f h0 13961 → bg_I E h0 h q zb → me_E (d + 3) 194 287 [some (.inr (.inr 109)), some (.inl (q : Int)), some (.inl zb), q3] [] h (bg_Q E h0) := by
      intro lt M
      induction M with
      | zero => intro zb h hM _ _; exfalso; omega
      | succ M im =>
        intro zb h hM b0 b1 hI
        obtain ⟨i1, i2, i3⟩ := id hI
        have ob : mi_in zb := ⟨by omega, by omega⟩
        have e61 : mi_f h 13961 = mi_f h0 13961 := me_f (c := 13961) i2 hS0 rfl rfl
        have q10 : q < 10 := by omega
        have bq := fun z => (bit_b z q10).1
        refine mt_stP i1 oa ob o3 ?_ ?_ ?_
        · intro b c
          refine ⟨by omega, fun h1 g1 g2 => ?_⟩
          have e := me_nil g2
          subst e
          have ek : (q : Int) + 1 = ((q + 1 : Nat) : Int) := by omega
          rw [ek]
          refine ih (q + 1) _ _ _ (by omega) (by omega) (me_oi ob) o3 ⟨i1, i2, fun r hr b => ?_⟩
          have := i3 r hr b
          rw [if_pos (by omega)] at this
          rw [if_neg (by omega)]
          exact this
        · intro b c1 c2
          have hz : ¬ wa E q zb.toNat q := fun w => by
            have k := i3 zb.toNat (by omega) q
            rw [if_neg (by omega)] at k
            exact c2 ((bq _).mpr (k.mpr w))
          refine ⟨by omega, fun h1 g1 g2 g3 => im (zb + 1) h1 (by omega) (by omega) (by omega) ⟨g1, i2.trans g3, fun r hr b => ?_⟩⟩
          have k := i3 r hr b
          rw [g2]
          by_cases cr : r = zb.toNat
          · rw [if_pos cr, ← cr]
            rw [if_neg (by omega)] at k
            rw [if_pos (by omega)]
            rw [← cr] at hz
            exact ⟨fun x => Or.inl (k.mp x), fun x => x.elim k.mpr (fun x => absurd x.1 hz)⟩
          · rw [if_neg cr]
            by_cases cl : (r : Int) < zb
            · rw [if_pos cl] at k
              rw [if_pos (by omega)]
              exact k
            · rw [if_neg cl] at k
              rw [if_neg (by omega)]
              exact k
        · intro b c1 c2
          have hz : wa E q zb.toNat q := by
            have k := i3 zb.toNat (by omega) q
            rw [if_neg (by omega)] at k
            exact k.mp ((bq _).mp c2)
          have hq : ∀ b, (tb (b64 (mi_a h 116 q)) b = true ↔ wa E q q b) := fun b => by
            have k := i3 q lt b
            by_cases cl : (q : Int) < zb
            · rw [if_pos cl, wa_self] at k
              exact k
            · rw [if_neg cl] at k
              exact k
          refine ⟨by omega, fun h1 g1 g2 g3 => im (zb + 1) h1 (by omega) (by omega) (by omega) ⟨g1, i2.trans g3, fun r hr b => ?_⟩⟩
          have k := i3 r hr b
          rw [g2]
          by_cases cr : r = zb.toNat
          · rw [if_pos cr, ← cr]
            rw [if_neg (by omega)] at k
            rw [if_pos (by omega), b64_or, tb_or, Bool.or_eq_true, k]
            have hq' : tb (b64 (mi_a h 116 (Int.toNat (q : Int)))) b = true ↔ wa E q q b := hq b
            rw [hq']
            rw [← cr] at hz
            exact ⟨fun x => x.elim Or.inl (fun x => Or.inr ⟨hz, x⟩), fun x => x.elim Or.inl (fun x => Or.inr x.2)⟩
          · rw [if_neg cr]
            by_cases cl : (r : Int) < zb
            · rw [if_pos cl] at k
              rw [if_pos (by omega)]
              exact k
            · rw [if_neg cl] at k
              rw [if_neg (by omega)]
              exact k
    refine mt_stO hI.1 oa o2 o3 ?_ ?_
    · intro b c h1 g1 g2
      have e := me_nil g2
      subst e
      refine ⟨rfl, hI.1, hI.2.1, fun r hr b => ?_⟩
      have k := hI.2.2 r hr b
      have eq : q = (mi_f h0 13961).toNat := by omega
      rw [if_neg (by omega), eq] at k
      exact k
    · intro b c h1 g1 g2
      have e := me_nil g2
      subst e
      exact s287 (by omega) 20 0 _ (by omega) (by decide) (by omega) hI
theorem s244b {Y : wk_Y} (hL : sy_L h0 Y) (hS0 : ab_Sh sx_sk h0) : ∀ (N : Nat) (za : Int) (q2 q3 : Option mi_V) (h : sm_H), 10 - za < N → 0 ≤ za → za ≤ mi_f h0 13961 → (∀ v, q2 = some v → mi_ok v) → (∀ v, q3 = some v → mi_ok v) → ab_Sh sx_sk h → ab_Fr [(14848, 14849)] h0 h → (∀ r : Nat, (r : Int) < za → mi_a h 116 r = mi_a h0 141 (mi_a h0 114 r).toNat) → me_E (d + 3) 194 244 [some (.inr (.inr 109)), some (.inl za), q2, q3] [] h (bg_Q (fun r b => tb (lX h0 (mi_a h0 114 r).toNat) b = true) h0) := by
  have b10 := me_fb (c := 13961) hS0 rfl
  intro N
  induction N with
  | zero => intro za q2 q3 h hN _ _; exfalso; omega
  | succ N ih =>
    intro za q2 q3 h hN a0 a1 o2 o3 hS hF hv
    have oa : mi_in za := ⟨by omega, by omega⟩
    have hL1 := sy_L_fr hL hS0 (hF.wide (fun c hc => ab_swr_ok (by decide) hc))
    have h80 := hL1.1.2.1
    have e61 : mi_f h 13961 = mi_f h0 13961 := me_f (c := 13961) hF hS0 rfl rfl
    refine mt_stN hS oa o2 o3 ?_ ?_
    · intro b c h1 g1 g2
      have e := me_nil g2
      subst e
      refine s277b hS0 20 0 _ _ _ (by decide) b10.1 o2 o3 ⟨g1, hF, fun r hr b => ?_⟩
      rw [if_neg (by omega), hv r (by omega)]
      exact Iff.rfl
    · intro b c
      have := hL1.2.2.2.2 za a0 c
      refine ⟨by omega, fun h1 g1 g2 g3 => ih (za + 1) _ _ h1 (by omega) (by omega) (by omega) o2 o3 g1 (hF.trans g3) (fun r hr => ?_)⟩
      rw [g2]
      by_cases cr : r = za.toNat
      · rw [if_pos cr, cr, me_a (k := 114) hF hS0 rfl rfl, me_a (k := 141) hF hS0 rfl rfl]
      · rw [if_neg cr]
        exact hv r (by omega)
end WBG
/-- all that study leaves -/
def sz_Z (β : Int → Int64) (ρ : Int → List Int) (hb : sm_H) (w : Option mi_V) (h' : sm_H) : Prop := w = none ∧ ab_Sh sx_sk h' ∧ ab_Fr sy_W hb h' ∧ ∃ (j k : Nat) (W0 : sp_F), (sp_eq (mi_f hb 13965).toNat (rX h') (sr_k (GR (mi_a hb)) j) ∧ sp_fix (mi_f hb 13965).toNat (GR (mi_a hb)) (sr_k (GR (mi_a hb)) j) ∧ (∀ i : Nat, (i : Int) < mi_f hb 13965 → W0 i = if (i : Int) = mi_a hb 114 0 then 1 else 0) ∧ (∀ i : Nat, mx_b h' 138 i = sk_k (sr_k (GR (mi_a hb)) j) (GR (mi_a hb)) (mi_f hb 13965).toNat W0 k i) ∧ sw_sol (sr_k (GR (mi_a hb)) j) (mi_f hb 13965).toNat (GR (mi_a hb)) (sk_k (sr_k (GR (mi_a hb)) j) (GR (mi_a hb)) (mi_f hb 13965).toNat W0 k)) ∧
  (∀ u : Int, 0 ≤ u → u < mi_f hb 13963 → rq_ok (rv_p (mi_a hb)) (sr_k (GR (mi_a hb)) j) h' u) ∧
  (∃ X, sp_eq (mi_f hb 13965).toNat X (sr_k (GR (mi_a hb)) j) ∧ ∀ a : Int, 0 ≤ a → a < mi_f hb 13964 → ap_ok X h' a) ∧
  (∀ F : Nat, (F : Int) < mi_f hb 13965 → ∀ u, fr_of hb F u → mx_b h' 137 u.toNat = fw_v (mi_a hb) ρ (sr_k (GR (mi_a hb)) j) (sk_k (sr_k (GR (mi_a hb)) j) (GR (mi_a hb)) (mi_f hb 13965).toNat W0 k F) u) ∧
  (∀ F : Nat, (F : Int) < mi_f hb 13965 → lX h' F = lr_k β (GR (mi_a hb)) j F) ∧ (∀ F : Nat, (F : Int) < mi_f hb 13965 → lr_k β (GR (mi_a hb)) (j + 1) F = lr_k β (GR (mi_a hb)) j F) ∧
  ∀ r : Nat, (r : Int) < mi_f hb 13961 → ∀ b, (tb (b64 (mi_a h' 116 r)) b = true ↔ wa (fun r b => tb (lX h' (mi_a hb 114 r).toNat) b = true) (mi_f hb 13961).toNat r b)
section SZZ
variable {d : Nat} {hb : sm_H} {Y : wk_Y} {Q : Option mi_V → sm_H → Prop} {β : Int → Int64} {ρ : Int → List Int}
theorem st2l (hL : sy_L hb Y) (hSb : ab_Sh sx_sk hb) (K : ∀ (h : sm_H) (q2 q3 : Option mi_V), (∀ v, q2 = some v → mi_ok v) → (∀ v, q3 = some v → mi_ok v) → ab_Sh sx_sk h → ab_Fr sy_W hb h → (∀ i : Nat, (i : Int) < mi_f hb 13965 → (mi_a h 133 i = 0 ∧ mx_b h 136 i = 0 ∧ mi_a h 144 i = 1000 ∧ mi_a h 141 i = 0) ∧ mx_b h 138 i = if (i : Int) = mi_a hb 114 0 then 1 else 0) → mi_f h 13999 = 1 → me_E (d + 3) 194 74 [some (.inr (.inr 109)), some (.inl 0), q2, q3] [] h Q) : ∀ (N : Nat) (za : Int) (q2 q3 : Option mi_V) (h : sm_H), 80 - za < N → 0 ≤ za → za ≤ mi_f hb 13965 → (∀ v, q2 = some v → mi_ok v) → (∀ v, q3 = some v → mi_ok v) → ab_Sh sx_sk h → ab_Fr sy_W hb h → (∀ i : Nat, (i : Int) < za → (mi_a h 133 i = 0 ∧ mx_b h 136 i = 0 ∧ mi_a h 144 i = 1000 ∧ mi_a h 141 i = 0) ∧ mx_b h 138 i = if (i : Int) = mi_a hb 114 0 then 1 else 0) → me_E (d + 3) 194 2 [some (.inr (.inr 109)), some (.inl za), q2, q3] [] h Q := by
  have b80 := me_fb (c := 13965) hSb rfl
  intro N
  induction N with
  | zero => intro za q2 q3 h hN a0 a1; exfalso; omega
  | succ N ih =>
    intro za q2 q3 h hN a0 a1 o2 o3 hS hF hv
    have oa : mi_in za := ⟨by omega, by omega⟩
    have e65 : mi_f h 13965 = mi_f hb 13965 := me_f (c := 13965) hF hSb rfl rfl
    have e114 : mi_a h 114 (Int.toNat 0) = mi_a hb 114 0 := me_a (k := 114) hF hSb rfl rfl
    refine mt_stB hS oa o2 o3 ?_ ?_ ?_
    · intro b c1 h1 s1 s2 s3
      refine K h1 q2 q3 o2 o3 s1 (hF.trans (s3.wide (fun c hc => ab_swr_ok (by decide) hc))) (fun i hi => ?_) s2
      rw [me_a (k := 133) s3 hS rfl rfl, me_b (k := 136) s3 hS rfl rfl, me_a (k := 144) s3 hS rfl rfl, me_b (k := 138) s3 hS rfl rfl, me_a (k := 141) s3 hS rfl rfl]
      exact hv i (by omega)
    · intro b c1 c2
      refine ⟨by omega, fun h1 s1 s2 s3 s4 s5 s6 s7 => ih (za + 1) _ _ h1 (by omega) (by omega) (by omega) o2 o3 s1 (hF.trans (s7.wide (fun c hc => ab_swr_ok (by decide) hc))) (fun i hi => ?_)⟩
      rw [s2, s3, s4, s5, s6]
      by_cases ci : i = za.toNat
      · rw [if_pos ci, if_pos ci, if_pos ci, if_pos ci, if_pos ci, if_neg (by rw [e114] at c2; omega)]
        exact ⟨⟨rfl, rfl, rfl, rfl⟩, rfl⟩
      · rw [if_neg ci, if_neg ci, if_neg ci, if_neg ci, if_neg ci]
        exact hv i (by omega)
    · intro b c1 c2
      refine ⟨by omega, fun h1 s1 s2 s3 s4 s5 s6 s7 => ih (za + 1) _ _ h1 (by omega) (by omega) (by omega) o2 o3 s1 (hF.trans (s7.wide (fun c hc => ab_swr_ok (by decide) hc))) (fun i hi => ?_)⟩
      rw [s2, s3, s4, s5, s6]
      by_cases ci : i = za.toNat
      · rw [if_pos ci, if_pos ci, if_pos ci, if_pos ci, if_pos ci, if_pos (by rw [e114] at c2; omega)]
        exact ⟨⟨rfl, rfl, rfl, rfl⟩, rfl⟩
      · rw [if_neg ci, if_neg ci, if_neg ci, if_neg ci, if_neg ci]
        exact hv i (by omega)
theorem me_studyz (hβ : bt_ok β hb) (hρ : rh_ok hb ρ) (hL : sy_L hb Y) (hA : sy_A hb) (hSb : ab_Sh sx_sk hb) : me_E (d + 3) 194 0 [some (.inr (.inr 109)), none, none, none] [] hb (sz_Z β ρ hb) := by
  have b80 := me_fb (c := 13965) hSb rfl
  have b10 := me_fb (c := 13961) hSb rfl
  refine mt_stA hSb (fun h1 g1 g2 => ?_)
  have e0 := me_nil g2
  subst e0
  refine st2l hL hSb (fun h2 q2 q3 o2 o3 s1 s2 s3 s4 => ?_) 81 0 none none h1 (by decide) (by decide) b80.1 me_on me_on hSb ab_Fr.refl (fun i hi => by omega)
  refine st74l (β := β) (W := mx_b h2 138) hβ hL hA hSb (fun h3 j q2 q3 o2 o3 hj t1 => ?_) 901 0 q2 q3 h2 (by decide) (by decide) o2 o3 ⟨⟨⟨s1, s2, rfl⟩, fun F hF => ?_, fun _ => by omega, fun j ej => by omega⟩, fun F hF => ?_, fun j ej => by omega⟩
  · obtain ⟨⟨⟨b1, b2, b3⟩, j2, j3, j4⟩, l1, l2, Z, l3, l4⟩ := hj
    refine sz169f (ρ := ρ) (X := sr_k (GR (mi_a h1)) j) (h0 := h3) (W0 := mx_b h2 138) hρ hL hSb (fun h4 k q2 q3 o2 o3 hB hW hs hf => ?_) 901 0 q2 q3 h3 (by decide) (by decide) o2 o3 ⟨b1, b2, ab_Fr.refl, j4⟩ b3 (fun _ => by omega) (fun j ej => by omega)
    have hL4 := sy_L_fr hL hSb hB.2.1
    have e61 : mi_f h4 13961 = mi_f h1 13961 := me_f (c := 13961) hB.2.1 hSb rfl rfl
    have e34 : rv_eq h3 h4 := rv_eq_fr hB.2.2.1 b1 rfl
    refine (s244b hL4 hB.1 20 0 q2 q3 h4 (by decide) (by decide) (by omega) o2 o3 hB.1 ab_Fr.refl (fun r hr => by omega)).imp (fun w h' hq => ?_)
    obtain ⟨r1, r2, r3, r4⟩ := hq
    have eL : lX h' = lX h4 := lX_fr r3 hB.1 rfl
    have eL3 : lX h4 = lX h3 := lX_fr hB.2.2.1 b1 rfl
    have e4 : rv_eq h4 h' := rv_eq_fr r3 hB.1 rfl
    refine ⟨r1, r2, hB.2.1.trans (r3.wide (fun c hc => ab_swr_ok (by decide) hc)), j, k, mx_b h2 138, ⟨?_, j3, fun i hi => (s3 i hi).2, fun i => ?_, hs⟩, fun u u0 u1 => ?_, ⟨Z, l3, fun a a0 a1 => ap_ok_fr r3 hB.1 e4 rfl (ap_ok_fr hB.2.2.1 b1 e34 rfl (l4 a a0 a1))⟩, fun F hF u hu => ?_, fun F hF => ?_, l2, fun r hr b => ?_⟩
    · rw [rX_fr r3 hB.1 rfl, rX_fr hB.2.2.1 b1 rfl]
      exact j2
    · rw [me_b (k := 138) r3 hB.1 rfl rfl, hW]
    · obtain ⟨x1, x2⟩ := hB.2.2.2 u u0 u1
      exact ⟨(me_a (k := 131) r3 hB.1 rfl rfl).trans x1, (me_b (k := 134) r3 hB.1 rfl rfl).trans x2⟩
    · rw [me_b (k := 137) r3 hB.1 rfl rfl]
      exact hf F hF u hu
    · rw [eL, eL3]
      exact l1 F hF
    · have k := r4 r (by omega) b
      rw [e61] at k
      rw [k, eL]
      have e114 : ∀ r, mi_a h4 114 r = mi_a h1 114 r := fun r => me_a (k := 114) hB.2.1 hSb rfl rfl
      simp only [e114]
  · obtain ⟨⟨x1, x2, x3, -⟩, -⟩ := s3 F (by omega)
    exact ⟨x1, x2, x3⟩
  · obtain ⟨⟨-, -, -, x4⟩, -⟩ := s3 F hF
    unfold lX
    rw [x4]
    rfl
end SZZ
/-! segments: least, directors -/
set_option maxRecDepth 20000 in
theorem mp_leA_0 (h : sm_H) (d : Nat) (zb zf zp : Int) : mi_path [(202, (5, 1, sb_202))] sx_sk h 10 [8, 1] (d, 202, 0, [some (.inr (.inr 109)), some (.inl (zb)), some (.inl (zf)), some (.inl (zp)), none], [], [], []) = some ((d, 202, 24, [some (.inr (.inr 109)), some (.inl (zb)), some (.inl (zf)), some (.inl (zp)), some (.inl (zf + (((16 : Int)) * zp)))], [.inl (zf + (((16 : Int)) * zp))], [], []), [-2147483648 ≤ ((16 : Int)) * zp ∧ ((16 : Int)) * zp ≤ 2147483647, -2147483648 ≤ zf + (((16 : Int)) * zp) ∧ zf + (((16 : Int)) * zp) ≤ 2147483647, zb = ((0 : Int))]) := rfl
theorem mi_tab_leA_0 : ∀ e ∈ ([(202, (5, 1, sb_202))] : mi_T), sc_P e.1 = some e.2 := mi_tb mi_P202 (mi_tb_e)
set_option maxRecDepth 20000 in
theorem ms_leA_0 {h : sm_H} {d : Nat} {Q : Option mi_V → sm_H → Prop} {zb zf zp : Int} (hS : ab_Sh sx_sk h) (ok_zb : mi_in zb) (ok_zf : mi_in zf) (ok_zp : mi_in zp) (ho : (-2147483648 ≤ ((16 : Int)) * zp ∧ ((16 : Int)) * zp ≤ 2147483647) ∧ (-2147483648 ≤ zf + (((16 : Int)) * zp) ∧ zf + (((16 : Int)) * zp) ≤ 2147483647) ∧ (zb = ((0 : Int)))) (kon : ∀ h1, me_W [] h h1 → Q (some (.inl (zf + (((16 : Int)) * zp)))) h1) : me_E (d) 202 0 [some (.inr (.inr 109)), some (.inl (zb)), some (.inl (zf)), some (.inl (zp)), none] [] h Q := me_seg (mp_leA_0 h d zb zf zp) (mi_tab_leA_0) hS (mi_okL_c (trivial) (mi_okL_c (ok_zb) (mi_okL_c (ok_zf) (mi_okL_c (ok_zp) (mi_okL_n (mi_okL_e)))))) (mi_okS_e) (mi_al (ho.1) (mi_al (ho.2.1) (mi_al (ho.2.2) (mi_al_e)))) (fun h1 W _ hst => me_ret (M := (5, 1, sb_202)) rfl rfl rfl hst (mi_al_e) (kon h1 W))
set_option maxRecDepth 20000 in
theorem mp_leA_1 (h : sm_H) (d : Nat) (zb zf zp : Int) : mi_path [(202, (5, 1, sb_202))] sx_sk h 12 [8, 0, 1] (d, 202, 0, [some (.inr (.inr 109)), some (.inl (zb)), some (.inl (zf)), some (.inl (zp)), none], [], [], []) = some ((d, 202, 24, [some (.inr (.inr 109)), some (.inl (zb)), some (.inl (zf)), some (.inl (zp)), some (.inl (zf + (((16 : Int)) * zp)))], [.inl (zb)], [], []), [-2147483648 ≤ ((16 : Int)) * zp ∧ ((16 : Int)) * zp ≤ 2147483647, -2147483648 ≤ zf + (((16 : Int)) * zp) ∧ zf + (((16 : Int)) * zp) ≤ 2147483647, zb ≠ ((0 : Int)), zb ≤ (zf + (((16 : Int)) * zp))]) := rfl
theorem mi_tab_leA_1 : ∀ e ∈ ([(202, (5, 1, sb_202))] : mi_T), sc_P e.1 = some e.2 := mi_tb mi_P202 (mi_tb_e)
set_option maxRecDepth 20000 in
theorem ms_leA_1 {h : sm_H} {d : Nat} {Q : Option mi_V → sm_H → Prop} {zb zf zp : Int} (hS : ab_Sh sx_sk h) (ok_zb : mi_in zb) (ok_zf : mi_in zf) (ok_zp : mi_in zp) (ho : (-2147483648 ≤ ((16 : Int)) * zp ∧ ((16 : Int)) * zp ≤ 2147483647) ∧ (-2147483648 ≤ zf + (((16 : Int)) * zp) ∧ zf + (((16 : Int)) * zp) ≤ 2147483647) ∧ (zb ≠ ((0 : Int))) ∧ (zb ≤ (zf + (((16 : Int)) * zp)))) (kon : ∀ h1, me_W [] h h1 → Q (some (.inl (zb))) h1) : me_E (d) 202 0 [some (.inr (.inr 109)), some (.inl (zb)), some (.inl (zf)), some (.inl (zp)), none] [] h Q := me_seg (mp_leA_1 h d zb zf zp) (mi_tab_leA_1) hS (mi_okL_c (trivial) (mi_okL_c (ok_zb) (mi_okL_c (ok_zf) (mi_okL_c (ok_zp) (mi_okL_n (mi_okL_e)))))) (mi_okS_e) (mi_al (ho.1) (mi_al (ho.2.1) (mi_al (ho.2.2.1) (mi_al (ho.2.2.2) (mi_al_e))))) (fun h1 W _ hst => me_ret (M := (5, 1, sb_202)) rfl rfl rfl hst (mi_al_e) (kon h1 W))
set_option maxRecDepth 20000 in
theorem mp_leA_2 (h : sm_H) (d : Nat) (zb zf zp : Int) : mi_path [(202, (5, 1, sb_202))] sx_sk h 13 [8, 0, 0] (d, 202, 0, [some (.inr (.inr 109)), some (.inl (zb)), some (.inl (zf)), some (.inl (zp)), none], [], [], []) = some ((d, 202, 24, [some (.inr (.inr 109)), some (.inl (zb)), some (.inl (zf)), some (.inl (zp)), some (.inl (zf + (((16 : Int)) * zp)))], [.inl (zf + (((16 : Int)) * zp))], [], []), [-2147483648 ≤ ((16 : Int)) * zp ∧ ((16 : Int)) * zp ≤ 2147483647, -2147483648 ≤ zf + (((16 : Int)) * zp) ∧ zf + (((16 : Int)) * zp) ≤ 2147483647, zb ≠ ((0 : Int)), (zf + (((16 : Int)) * zp)) < zb]) := rfl
theorem mi_tab_leA_2 : ∀ e ∈ ([(202, (5, 1, sb_202))] : mi_T), sc_P e.1 = some e.2 := mi_tb mi_P202 (mi_tb_e)
set_option maxRecDepth 20000 in
theorem ms_leA_2 {h : sm_H} {d : Nat} {Q : Option mi_V → sm_H → Prop} {zb zf zp : Int} (hS : ab_Sh sx_sk h) (ok_zb : mi_in zb) (ok_zf : mi_in zf) (ok_zp : mi_in zp) (ho : (-2147483648 ≤ ((16 : Int)) * zp ∧ ((16 : Int)) * zp ≤ 2147483647) ∧ (-2147483648 ≤ zf + (((16 : Int)) * zp) ∧ zf + (((16 : Int)) * zp) ≤ 2147483647) ∧ (zb ≠ ((0 : Int))) ∧ ((zf + (((16 : Int)) * zp)) < zb)) (kon : ∀ h1, me_W [] h h1 → Q (some (.inl (zf + (((16 : Int)) * zp)))) h1) : me_E (d) 202 0 [some (.inr (.inr 109)), some (.inl (zb)), some (.inl (zf)), some (.inl (zp)), none] [] h Q := me_seg (mp_leA_2 h d zb zf zp) (mi_tab_leA_2) hS (mi_okL_c (trivial) (mi_okL_c (ok_zb) (mi_okL_c (ok_zf) (mi_okL_c (ok_zp) (mi_okL_n (mi_okL_e)))))) (mi_okS_e) (mi_al (ho.1) (mi_al (ho.2.1) (mi_al (ho.2.2.1) (mi_al (ho.2.2.2) (mi_al_e))))) (fun h1 W _ hst => me_ret (M := (5, 1, sb_202)) rfl rfl rfl hst (mi_al_e) (kon h1 W))
set_option maxRecDepth 20000 in
theorem mt_leA {h : sm_H} {d : Nat} {Q : Option mi_V → sm_H → Prop} {zb zf zp : Int} (hS : ab_Sh sx_sk h) (ok_zb : mi_in zb) (ok_zf : mi_in zf) (ok_zp : mi_in zp) (k0 : (zb = ((0 : Int))) → ((-2147483648 ≤ ((16 : Int)) * zp ∧ ((16 : Int)) * zp ≤ 2147483647) ∧ (-2147483648 ≤ zf + (((16 : Int)) * zp) ∧ zf + (((16 : Int)) * zp) ≤ 2147483647)) ∧ (∀ h1, ab_Sh sx_sk h1 → ab_Fr [] h h1 → Q (some (.inl (zf + (((16 : Int)) * zp)))) h1)) (k1 : (zb ≠ ((0 : Int))) → (zb ≤ (zf + (((16 : Int)) * zp))) → ((-2147483648 ≤ ((16 : Int)) * zp ∧ ((16 : Int)) * zp ≤ 2147483647) ∧ (-2147483648 ≤ zf + (((16 : Int)) * zp) ∧ zf + (((16 : Int)) * zp) ≤ 2147483647)) ∧ (∀ h1, ab_Sh sx_sk h1 → ab_Fr [] h h1 → Q (some (.inl (zb))) h1)) (k2 : (zb ≠ ((0 : Int))) → ((zf + (((16 : Int)) * zp)) < zb) → ((-2147483648 ≤ ((16 : Int)) * zp ∧ ((16 : Int)) * zp ≤ 2147483647) ∧ (-2147483648 ≤ zf + (((16 : Int)) * zp) ∧ zf + (((16 : Int)) * zp) ≤ 2147483647)) ∧ (∀ h1, ab_Sh sx_sk h1 → ab_Fr [] h h1 → Q (some (.inl (zf + (((16 : Int)) * zp)))) h1)) : me_E (d) 202 0 [some (.inr (.inr 109)), some (.inl (zb)), some (.inl (zf)), some (.inl (zp)), none] [] h Q := Or.elim (mi_em .eq (zb) (((0 : Int)))) (fun c0 => ms_leA_0 hS ok_zb ok_zf ok_zp ⟨(k0 c0).1.1, (k0 c0).1.2, c0⟩ (fun h1 W => (k0 c0).2 h1 W.1 (W.2.2.2.2.2 _ rfl))) (fun c0 => Or.elim (mi_em .ge ((zf + (((16 : Int)) * zp))) (zb)) (fun c1 => ms_leA_1 hS ok_zb ok_zf ok_zp ⟨(k1 c0 c1).1.1, (k1 c0 c1).1.2, c0, c1⟩ (fun h1 W => (k1 c0 c1).2 h1 W.1 (W.2.2.2.2.2 _ rfl))) (fun c1 => ms_leA_2 hS ok_zb ok_zf ok_zp ⟨(k2 c0 c1).1.1, (k2 c0 c1).1.2, c0, c1⟩ (fun h1 W => (k2 c0 c1).2 h1 W.1 (W.2.2.2.2.2 _ rfl))))
set_option maxRecDepth 20000 in
theorem mp_dvA_0 (h : sm_H) (d : Nat) (zf za : Int) : mi_path [(203, (3, 2, sb_203))] sx_sk h 11 [1] (d, 203, 0, [some (.inr (.inr 109)), some (.inl (zf)), some (.inl (za))], [], [], []) = some ((d, 203, 26, [some (.inr (.inr 109)), some (.inl (zf)), some (.inl (za))], [.inr (.inl ((mx_b h 135 (Int.toNat za)) ||| (Int64.ofNat 0)))], [], []), [0 ≤ za ∧ za < 80, 0 ≤ za ∧ za < 80, (mi_a h 132 (Int.toNat za)) = ((0 : Int))]) := rfl
theorem mi_tab_dvA_0 : ∀ e ∈ ([(203, (3, 2, sb_203))] : mi_T), sc_P e.1 = some e.2 := mi_tb mi_P203 (mi_tb_e)
set_option maxRecDepth 20000 in
theorem ms_dvA_0 {h : sm_H} {d : Nat} {Q : Option mi_V → sm_H → Prop} {zf za : Int} (hS : ab_Sh sx_sk h) (ok_zf : mi_in zf) (ok_za : mi_in za) (ho : (0 ≤ za ∧ za < 80) ∧ (0 ≤ za ∧ za < 80) ∧ ((mi_a h 132 (Int.toNat za)) = ((0 : Int)))) (kon : ∀ h1, me_W [] h h1 → Q (some (.inr (.inl ((mx_b h 135 (Int.toNat za)) ||| (Int64.ofNat 0))))) h1) : me_E (d) 203 0 [some (.inr (.inr 109)), some (.inl (zf)), some (.inl (za))] [] h Q := me_seg (mp_dvA_0 h d zf za) (mi_tab_dvA_0) hS (mi_okL_c (trivial) (mi_okL_c (ok_zf) (mi_okL_c (ok_za) (mi_okL_e)))) (mi_okS_e) (mi_al (ho.1) (mi_al (ho.2.1) (mi_al (ho.2.2) (mi_al_e)))) (fun h1 W _ hst => me_ret (M := (3, 2, sb_203)) rfl rfl rfl hst (mi_al_e) (kon h1 W))
set_option maxRecDepth 20000 in
theorem mp_dvA_1 (h : sm_H) (d : Nat) (zf za : Int) : mi_path [(203, (3, 2, sb_203))] sx_sk h 15 [0] (d, 203, 0, [some (.inr (.inr 109)), some (.inl (zf)), some (.inl (za))], [], [], []) = some ((d, 203, 26, [some (.inr (.inr 109)), some (.inl (zf)), some (.inl (za))], [.inr (.inl ((mx_b h 135 (Int.toNat za)) ||| (mx_b h 138 (Int.toNat zf))))], [], []), [0 ≤ za ∧ za < 80, 0 ≤ za ∧ za < 80, (mi_a h 132 (Int.toNat za)) ≠ ((0 : Int)), 0 ≤ zf ∧ zf < 80]) := rfl
theorem mi_tab_dvA_1 : ∀ e ∈ ([(203, (3, 2, sb_203))] : mi_T), sc_P e.1 = some e.2 := mi_tb mi_P203 (mi_tb_e)
set_option maxRecDepth 20000 in
theorem ms_dvA_1 {h : sm_H} {d : Nat} {Q : Option mi_V → sm_H → Prop} {zf za : Int} (hS : ab_Sh sx_sk h) (ok_zf : mi_in zf) (ok_za : mi_in za) (ho : (0 ≤ za ∧ za < 80) ∧ (0 ≤ za ∧ za < 80) ∧ ((mi_a h 132 (Int.toNat za)) ≠ ((0 : Int))) ∧ (0 ≤ zf ∧ zf < 80)) (kon : ∀ h1, me_W [] h h1 → Q (some (.inr (.inl ((mx_b h 135 (Int.toNat za)) ||| (mx_b h 138 (Int.toNat zf)))))) h1) : me_E (d) 203 0 [some (.inr (.inr 109)), some (.inl (zf)), some (.inl (za))] [] h Q := me_seg (mp_dvA_1 h d zf za) (mi_tab_dvA_1) hS (mi_okL_c (trivial) (mi_okL_c (ok_zf) (mi_okL_c (ok_za) (mi_okL_e)))) (mi_okS_e) (mi_al (ho.1) (mi_al (ho.2.1) (mi_al (ho.2.2.1) (mi_al (ho.2.2.2) (mi_al_e))))) (fun h1 W _ hst => me_ret (M := (3, 2, sb_203)) rfl rfl rfl hst (mi_al_e) (kon h1 W))
set_option maxRecDepth 20000 in
theorem mt_dvA {h : sm_H} {d : Nat} {Q : Option mi_V → sm_H → Prop} {zf za : Int} (hS : ab_Sh sx_sk h) (ok_zf : mi_in zf) (ok_za : mi_in za) (k0 : ((mi_a h 132 (Int.toNat za)) = ((0 : Int))) → ((0 ≤ za ∧ za < 80)) ∧ (∀ h1, ab_Sh sx_sk h1 → ab_Fr [] h h1 → Q (some (.inr (.inl ((mx_b h 135 (Int.toNat za)) ||| (Int64.ofNat 0))))) h1)) (k1 : ((mi_a h 132 (Int.toNat za)) ≠ ((0 : Int))) → ((0 ≤ za ∧ za < 80) ∧ (0 ≤ zf ∧ zf < 80)) ∧ (∀ h1, ab_Sh sx_sk h1 → ab_Fr [] h h1 → Q (some (.inr (.inl ((mx_b h 135 (Int.toNat za)) ||| (mx_b h 138 (Int.toNat zf)))))) h1)) : me_E (d) 203 0 [some (.inr (.inr 109)), some (.inl (zf)), some (.inl (za))] [] h Q := Or.elim (mi_em .eq ((mi_a h 132 (Int.toNat za))) (((0 : Int)))) (fun c0 => ms_dvA_0 hS ok_zf ok_za ⟨(k0 c0).1, (k0 c0).1, c0⟩ (fun h1 W => (k0 c0).2 h1 W.1 (W.2.2.2.2.2 _ rfl))) (fun c0 => ms_dvA_1 hS ok_zf ok_za ⟨(k1 c0).1.1, (k1 c0).1.1, c0, (k1 c0).1.2⟩ (fun h1 W => (k1 c0).2 h1 W.1 (W.2.2.2.2.2 _ rfl)))
/-! the reference's check, exactly -/
def j_5 (h : sm_H) (n x : Int) : Prop := ∃ r : Nat, (r : Int) < n ∧ tb (b64 (mi_a h 116 r)) r = true ∧ x = 5 + 16 * mi_a h 113 r
def j_6 (h : sm_H) (n x : Int) : Prop := ∃ r : Nat, (r : Int) < n ∧ 1000 ≤ mi_a h 144 (mi_a h 114 r).toNat ∧ x = 6 + 16 * mi_a h 113 r
def j_7 (h : sm_H) (n x : Int) : Prop := ∃ u : Nat, (u : Int) < n ∧ (0 < mi_a h 122 u ∧ mi_a h 131 u ≠ 0) ∧ x = 7 + 16 * mi_a h 123 u
def j_9 (h : sm_H) (n x : Int) : Prop := ∃ u : Nat, (u : Int) < n ∧ (0 < mi_a h 122 u ∧ mx_b h 134 u &&& mx_b h 137 u ≠ 0) ∧ x = 9 + 16 * mi_a h 123 u
def jd (h : sm_H) (F a : Nat) : Int64 := mx_b h 135 a ||| (if mi_a h 132 a ≠ 0 then mx_b h 138 F else 0)
def ra_l (g : wk_g) : Nat → Int → List Int
  | 0, _ => []
  | m + 1, a => a :: ra_l g m (g 128 a.toNat)
def ra_L (h : sm_H) (F : Nat) : List Int := ra_l (mi_a h) (mi_a h 130 F).toNat (mi_a h 129 F)
def j_8 (h : sm_H) (n x : Int) : Prop := ∃ F : Nat, (F : Int) < n ∧ k8l (jd h F) (mi_a h 127) (ra_L h F) 0 x
def j_pl (h : sm_H) : Prop := (∀ r : Nat, (r : Int) < mi_f h 13961 → 0 ≤ mi_a h 113 r ∧ mi_a h 113 r ≤ 1000) ∧ (∀ u : Nat, (u : Int) < mi_f h 13963 → 0 < mi_a h 122 u → 0 ≤ mi_a h 123 u ∧ mi_a h 123 u ≤ 1000) ∧ ∀ F : Nat, (F : Int) < mi_f h 13965 → ∀ j : Nat, (j : Int) < mi_a h 130 F → 0 ≤ mi_a h 127 (wk_alt (mi_a h) j (mi_a h 129 F)).toNat ∧ mi_a h 127 (wk_alt (mi_a h) j (mi_a h 129 F)).toNat ≤ 1000
theorem j8_s {h : sm_H} {n x : Int} (n0 : 0 ≤ n) : j_8 h (n + 1) x ↔ j_8 h n x ∨ k8l (jd h n.toNat) (mi_a h 127) (ra_L h n.toNat) 0 x := by
  constructor
  · rintro ⟨F, hF, k⟩
    by_cases c : (F : Int) = n
    · have e : F = n.toNat := by omega
      rw [e] at k
      exact Or.inr k
    · exact Or.inl ⟨F, by omega, k⟩
  · rintro (⟨F, hF, k⟩ | k)
    · exact ⟨F, by omega, k⟩
    · exact ⟨n.toNat, by omega, k⟩
def ck_X (T : Int → Prop) (h : sm_H) (w : Option mi_V) (h' : sm_H) : Prop := h' = h ∧ ∃ z, w = some (.inl z) ∧ mi_in z ∧ lo_S T z
section CKX
variable {d : Nat} {h : sm_H} {Y : wk_Y} {S : Int → Prop}
theorem me_leastx {zb zf zp : Int} (hS : ab_Sh sx_sk h) (ob : mi_in zb) (f0 : 0 ≤ zf) (f1 : zf ≤ 16) (p0 : 0 ≤ zp) (p1 : zp ≤ 1000) (hp : ∀ x, S x → 0 < x) (hl : lo_S S zb) : me_E d 202 0 [some (.inr (.inr 109)), some (.inl zb), some (.inl zf), some (.inl zp), none] [] h (ck_X (fun x => S x ∨ x = zf + 16 * zp) h) := by
  refine mt_leA hS ob ⟨by omega, by omega⟩ ⟨by omega, by omega⟩ ?_ ?_ ?_
  · intro c
    refine ⟨⟨⟨by omega, by omega⟩, ⟨by omega, by omega⟩⟩, fun h1 g1 g2 => ⟨me_nil g2, _, rfl, ⟨by omega, by omega⟩, lo_add hp hl (Or.inl ⟨Or.inl c, rfl⟩)⟩⟩
  · intro c1 c2
    refine ⟨⟨⟨by omega, by omega⟩, ⟨by omega, by omega⟩⟩, fun h1 g1 g2 => ⟨me_nil g2, _, rfl, ob, lo_add hp hl (Or.inr ⟨⟨c1, c2⟩, rfl⟩)⟩⟩
  · intro c1 c2
    refine ⟨⟨⟨by omega, by omega⟩, ⟨by omega, by omega⟩⟩, fun h1 g1 g2 => ⟨me_nil g2, _, rfl, ⟨by omega, by omega⟩, lo_add hp hl (Or.inl ⟨Or.inr c2, rfl⟩)⟩⟩
theorem me_directorsx {F a : Int} (hS : ab_Sh sx_sk h) (f0 : 0 ≤ F) (f1 : F < 80) (a0 : 0 ≤ a) (a1 : a < 80) : me_E d 203 0 [some (.inr (.inr 109)), some (.inl F), some (.inl a)] [] h (fun w h' => h' = h ∧ w = some (.inr (.inl (jd h F.toNat a.toNat)))) := by
  refine mt_dvA hS ⟨by omega, by omega⟩ ⟨by omega, by omega⟩ ?_ ?_
  · intro c
    refine ⟨⟨a0, a1⟩, fun h1 g1 g2 => ⟨me_nil g2, ?_⟩⟩
    unfold jd
    rw [if_neg (fun q => q c)]
    rfl
  · intro c
    refine ⟨⟨⟨a0, a1⟩, ⟨f0, f1⟩⟩, fun h1 g1 g2 => ⟨me_nil g2, ?_⟩⟩
    unfold jd
    rw [if_pos c]
theorem ckx167 (hL : sy_L h Y) (hS : ab_Sh sx_sk h) (hP : j_pl h) (hp : ∀ x, S x → 0 < x) : ∀ (N : Nat) (zb zr : Int) (q3 q4 q5 q6 q7 : Option mi_V), 80 - zr < N → 0 ≤ zr → zr ≤ mi_f h 13965 → mi_in zb → (∀ v, q3 = some v → mi_ok v) → (∀ v, q4 = some v → mi_ok v) → (∀ v, q5 = some v → mi_ok v) → (∀ v, q6 = some v → mi_ok v) → (∀ v, q7 = some v → mi_ok v) → lo_S (fun x => S x ∨ j_8 h zr x) zb → (∀ x, j_8 h zr x → 0 < x) → me_E (d + 1) 201 167 [some (.inr (.inr 109)), some (.inl zb), some (.inl zr), q3, q4, q5, q6, q7] [] h (ck_X (fun x => S x ∨ j_8 h (mi_f h 13965) x) h) := by
  have b80 := me_fb (c := 13965) hS rfl
  intro N
  induction N with
  | zero => intro zb zr q3 q4 q5 q6 q7 hN _ _; exfalso; omega
  | succ N ih =>
    intro zb zr q3 q4 q5 q6 q7 hN r0 r1 ob o3 o4 o5 o6 o7 hl hp8
    have or_ : mi_in zr := ⟨by omega, by omega⟩
    refine mt_ckJ hS ob or_ o3 o4 o5 o6 o7 ?_ ?_
    · intro b c h1 g1 g2
      have e := me_nil g2
      subst e
      have : zr = mi_f h1 13965 := by omega
      rw [this] at hl
      exact ⟨rfl, _, rfl, ob, hl⟩
    · intro b c
      refine ⟨by omega, fun h1 g1 g2 => ?_⟩
      have e := me_nil g2
      subst e
      have hfz : zr < wk_f Y := by rw [hL.2.2.1]; exact c
      obtain ⟨-, -, c1, c2, -, c3⟩ := hL.1.2.2.2 zr r0 hfz
      have pl := hP.2.2 zr.toNat (by omega)
      have lp : ∀ (m j : Nat) (zb za : Int) (zx : Int64) (q6 q7 : Option mi_V) (T : Int → Prop), j + m = (mi_a h1 130 zr.toNat).toNat → za = wk_alt (mi_a h1) j (mi_a h1 129 zr.toNat) → mi_in zb → mi_in za → (∀ v, q6 = some v → mi_ok v) → (∀ v, q7 = some v → mi_ok v) → lo_S T zb → (∀ x, T x → 0 < x) → (∀ x, (T x ∨ k8l (jd h1 zr.toNat) (mi_a h1 127) (ra_l (mi_a h1) m za) zx x) ↔ (S x ∨ j_8 h1 (zr + 1) x)) → me_E (d + 1) 201 185 [some (.inr (.inr 109)), some (.inl zb), some (.inl zr), some (.inr (.inl zx)), none, some (.inl za), q6, q7] [] h1 (ck_X (fun x => S x ∨ j_8 h1 (mi_f h1 13965) x) h1) := by
        intro m
        induction m with
        | zero =>
          intro j zb za zx q6 q7 T hj hza ob oa o6 o7 hT hT0 hE
          have neg : za < 0 := by
            have ej : j = (mi_a h1 130 zr.toNat).toNat := by omega
            rw [← ej, ← hza] at c2
            exact c2
          refine mt_ckK g1 ob or_ oa o6 o7 ?_ ?_
          · intro c
            refine ⟨by omega, fun h2 s1 s2 => ?_⟩
            have e := me_nil s2
            subst e
            have hE' : ∀ x, T x ↔ (S x ∨ j_8 h2 (zr + 1) x) := fun x => ⟨fun q => (hE x).mp (Or.inl q), fun q => ((hE x).mpr q).elim id (fun q => q.elim)⟩
            exact ih zb (zr + 1) _ _ _ _ _ (by omega) (by omega) (by omega) ob (fun v e => by cases e; trivial) me_on (me_oi oa) o6 o7 (lo_cg hT hE') (fun x q => hT0 x ((hE' x).mpr (Or.inr q)))
          · intro cz; exfalso; omega
        | succ m im =>
          intro j zb za zx q6 q7 T hj hza ob oa o6 o7 hT hT0 hE
          have lt : (j : Int) < mi_a h1 130 zr.toNat := by omega
          obtain ⟨x1, x2, -⟩ := c3 j lt
          have pj := pl j lt
          rw [← hza] at x1 x2 pj
          refine mt_ckK g1 ob or_ oa o6 o7 ?_ ?_
          · intro c; exfalso; omega
          · intro cz h2 s1 s2
            have e := me_nil s2
            subst e
            have fin : ∀ (zb : Int) (T' : Int → Prop), mi_in zb → lo_S T' zb → (∀ x, T' x → 0 < x) → (∀ x, (T' x ∨ k8l (jd h2 zr.toNat) (mi_a h2 127) (ra_l (mi_a h2) m (mi_a h2 128 za.toNat)) (zx ||| jd h2 zr.toNat za.toNat) x) ↔ (S x ∨ j_8 h2 (zr + 1) x)) → me_E (d + 1) 201 223 [some (.inr (.inr 109)), some (.inl zb), some (.inl zr), some (.inr (.inl zx)), none, some (.inl za), some (.inr (.inl (jd h2 zr.toNat za.toNat))), none] [] h2 (ck_X (fun x => S x ∨ j_8 h2 (mi_f h2 13965) x) h2) := fun zb T' ob k1 k2 k3 => by
              refine mt_ckN s1 ob or_ oa ⟨by omega, fun h3 t1 t2 => ?_⟩
              have e := me_nil t2
              subst e
              exact im (j + 1) zb _ _ _ _ T' (by omega) (by rw [wk_alt_succ, hza]) ob (mi_inT _) (fun v e => by cases e; trivial) me_on k1 k2 k3
            refine ⟨_, me_directorsx s1 r0 (by omega) cz x2, fun w h3 ow hq => ?_⟩
            obtain ⟨e, rfl⟩ := hq
            subst e
            refine mt_ckL s1 ob or_ oa o6 o7 ?_ ?_
            · intro c4 h4 t1 t2
              have e := me_nil t2
              subst e
              have z : zx &&& jd h4 zr.toNat za.toNat = 0 := lg_eq.mp c4
              refine fin _ T ob hT hT0 (fun x => ?_)
              rw [← hE x]
              show _ ↔ (T x ∨ ((jd h4 zr.toNat za.toNat &&& zx ≠ 0) ∧ x = 8 + 16 * mi_a h4 127 za.toNat) ∨ k8l (jd h4 zr.toNat) (mi_a h4 127) (ra_l (mi_a h4) m (mi_a h4 128 za.toNat)) (zx ||| jd h4 zr.toNat za.toNat) x)
              rw [Int64.and_comm] at z
              exact ⟨fun q => q.elim Or.inl (fun q => Or.inr (Or.inr q)), fun q => q.elim Or.inl (fun q => q.elim (fun q => absurd z q.1) Or.inr)⟩
            · intro c4
              refine ⟨by omega, fun h4 t1 t2 => ?_⟩
              have e := me_nil t2
              subst e
              have z : zx &&& jd h4 zr.toNat za.toNat ≠ 0 := fun q => c4 (lg_eq.mpr q)
              refine ⟨_, me_leastx t1 ob (by decide) (by decide) pj.1 pj.2 hT0 hT, fun w h5 ow hq => ?_⟩
              obtain ⟨e, z1, rfl, oz, lz⟩ := hq
              subst e
              refine mt_ckM t1 ob or_ oa oz ?_
              intro h6 u1 u2
              have e := me_nil u2
              subst e
              refine fin _ _ oz lz (fun x q => q.elim (hT0 x) (fun q => by omega)) (fun x => ?_)
              rw [← hE x]
              show ((T x ∨ x = 8 + 16 * mi_a h6 127 za.toNat) ∨ _) ↔ (T x ∨ ((jd h6 zr.toNat za.toNat &&& zx ≠ 0) ∧ x = 8 + 16 * mi_a h6 127 za.toNat) ∨ k8l (jd h6 zr.toNat) (mi_a h6 127) (ra_l (mi_a h6) m (mi_a h6 128 za.toNat)) (zx ||| jd h6 zr.toNat za.toNat) x)
              rw [Int64.and_comm] at z
              exact ⟨fun q => q.elim (fun q => q.elim Or.inl (fun q => Or.inr (Or.inl ⟨z, q⟩))) (fun q => Or.inr (Or.inr q)), fun q => q.elim (fun q => Or.inl (Or.inl q)) (fun q => q.elim (fun q => Or.inl (Or.inr q.2)) Or.inr)⟩
      refine lp (mi_a h1 130 zr.toNat).toNat 0 zb _ _ _ _ (fun x => S x ∨ j_8 h1 zr x) (by omega) rfl ob (mi_inT _) o6 o7 hl (fun x q => q.elim (hp x) (hp8 x)) (fun x => ?_)
      rw [j8_s r0]
      show ((S x ∨ j_8 h1 zr x) ∨ k8l (jd h1 zr.toNat) (mi_a h1 127) (ra_L h1 zr.toNat) 0 x) ↔ _
      rw [or_assoc]
theorem ckx78 (hL : sy_L h Y) (hS : ab_Sh sx_sk h) (hP : j_pl h) (hp : ∀ x, S x → 0 < x) : ∀ (N : Nat) (zb zr : Int) (q3 q4 q5 q6 q7 : Option mi_V), 60 - zr < N → 0 ≤ zr → zr ≤ mi_f h 13963 → mi_in zb → (∀ v, q3 = some v → mi_ok v) → (∀ v, q4 = some v → mi_ok v) → (∀ v, q5 = some v → mi_ok v) → (∀ v, q6 = some v → mi_ok v) → (∀ v, q7 = some v → mi_ok v) → lo_S (fun x => S x ∨ j_7 h zr x ∨ j_9 h zr x) zb → me_E (d + 1) 201 78 [some (.inr (.inr 109)), some (.inl zb), some (.inl zr), q3, q4, q5, q6, q7] [] h (ck_X (fun x => (S x ∨ j_7 h (mi_f h 13963) x ∨ j_9 h (mi_f h 13963) x) ∨ j_8 h (mi_f h 13965) x) h) := by
  have b60 := me_fb (c := 13963) hS rfl
  have b80 := me_fb (c := 13965) hS rfl
  have p7 : ∀ (n x : Int), n ≤ mi_f h 13963 → (S x ∨ j_7 h n x ∨ j_9 h n x) → 0 < x := by
    rintro n x hn (q | ⟨u, u1, u2, u3⟩ | ⟨u, u1, u2, u3⟩)
    · exact hp x q
    · have := (hP.2.1 u (by omega) u2.1).1
      omega
    · have := (hP.2.1 u (by omega) u2.1).1
      omega
  intro N
  induction N with
  | zero => intro zb zr q3 q4 q5 q6 q7 hN _ _; exfalso; omega
  | succ N ih =>
    intro zb zr q3 q4 q5 q6 q7 hN r0 r1 ob o3 o4 o5 o6 o7 hl
    have or_ : mi_in zr := ⟨by omega, by omega⟩
    have s7 : ∀ x, j_7 h (zr + 1) x ↔ j_7 h zr x ∨ ((0 < mi_a h 122 zr.toNat ∧ mi_a h 131 zr.toNat ≠ 0) ∧ x = 7 + 16 * mi_a h 123 zr.toNat) := fun x => k_step r0
    have s9 : ∀ x, j_9 h (zr + 1) x ↔ j_9 h zr x ∨ ((0 < mi_a h 122 zr.toNat ∧ mx_b h 134 zr.toNat &&& mx_b h 137 zr.toNat ≠ 0) ∧ x = 9 + 16 * mi_a h 123 zr.toNat) := fun x => k_step r0
    have nx : ∀ zb, zr < mi_f h 13963 → mi_in zb → lo_S (fun x => S x ∨ j_7 h (zr + 1) x ∨ j_9 h (zr + 1) x) zb → me_E (d + 1) 201 78 [some (.inr (.inr 109)), some (.inl zb), some (.inl (zr + 1)), q3, q4, q5, q6, q7] [] h (ck_X (fun x => (S x ∨ j_7 h (mi_f h 13963) x ∨ j_9 h (mi_f h 13963) x) ∨ j_8 h (mi_f h 13965) x) h) := fun zb lt ob hl => ih zb (zr + 1) _ _ _ _ _ (by omega) (by omega) (by omega) ob o3 o4 o5 o6 o7 hl
    have g118 : ∀ zb, zr < mi_f h 13963 → mi_in zb → lo_S (fun x => S x ∨ j_7 h (zr + 1) x ∨ j_9 h zr x) zb → me_E (d + 1) 201 118 [some (.inr (.inr 109)), some (.inl zb), some (.inl zr), q3, q4, q5, q6, q7] [] h (ck_X (fun x => (S x ∨ j_7 h (mi_f h 13963) x ∨ j_9 h (mi_f h 13963) x) ∨ j_8 h (mi_f h 13965) x) h) := fun zb lt ob hl => by
      have same : ¬ (0 < mi_a h 122 zr.toNat ∧ mx_b h 134 zr.toNat &&& mx_b h 137 zr.toNat ≠ 0) → lo_S (fun x => S x ∨ j_7 h (zr + 1) x ∨ j_9 h (zr + 1) x) zb := fun c => lo_cg hl (fun x => by
        rw [s9]
        exact ⟨fun q => q.elim Or.inl (fun q => Or.inr (q.elim Or.inl (fun q => Or.inr (Or.inl q)))), fun q => q.elim Or.inl (fun q => Or.inr (q.elim Or.inl (fun q => q.elim Or.inr (fun q => absurd q.1 c))))⟩)
      refine mt_ckH hS ob or_ o3 o4 o5 o6 o7 ?_ ?_ ?_
      · intro c
        refine ⟨by omega, fun h1 g1 g2 => ?_⟩
        have e := me_nil g2
        subst e
        exact nx _ lt ob (same (fun q => by omega))
      · intro c1 c2
        refine ⟨by omega, fun h1 g1 g2 => ?_⟩
        have e := me_nil g2
        subst e
        exact nx _ lt ob (same (fun q => q.2 (lg_eq.mp c2)))
      · intro c1 c2
        refine ⟨by omega, fun h1 g1 g2 => ?_⟩
        have e := me_nil g2
        subst e
        have pl := hP.2.1 zr.toNat (by omega) c1
        refine ⟨_, me_leastx g1 ob (by decide) (by decide) pl.1 pl.2 (fun x q => ?_) hl, fun w h5 ow hq => ?_⟩
        · rcases q with q | q | q
          · exact hp x q
          · exact p7 (zr + 1) x (by omega) (Or.inr (Or.inl q))
          · exact p7 zr x (by omega) (Or.inr (Or.inr q))
        · obtain ⟨e, z, rfl, oz, lz⟩ := hq
          subst e
          refine mt_ckI g1 ob or_ oz o3 o4 o5 o6 o7 ⟨by omega, fun h2 t1 t2 => ?_⟩
          have e := me_nil t2
          subst e
          refine nx _ lt oz (lo_cg lz (fun x => ?_))
          rw [s9]
          have y : 0 < mi_a h2 122 zr.toNat ∧ mx_b h2 134 zr.toNat &&& mx_b h2 137 zr.toNat ≠ 0 := ⟨c1, fun q => c2 (lg_eq.mpr q)⟩
          exact ⟨fun q => q.elim (fun q => q.elim Or.inl (fun q => Or.inr (q.elim Or.inl (fun q => Or.inr (Or.inl q))))) (fun q => Or.inr (Or.inr (Or.inr ⟨y, q⟩))), fun q => q.elim (fun q => Or.inl (Or.inl q)) (fun q => q.elim (fun q => Or.inl (Or.inr (Or.inl q))) (fun q => q.elim (fun q => Or.inl (Or.inr (Or.inr q))) (fun q => Or.inr q.2)))⟩
    have same7 : ¬ (0 < mi_a h 122 zr.toNat ∧ mi_a h 131 zr.toNat ≠ 0) → lo_S (fun x => S x ∨ j_7 h (zr + 1) x ∨ j_9 h zr x) zb := fun c => lo_cg hl (fun x => by
      rw [s7]
      exact ⟨fun q => q.elim Or.inl (fun q => Or.inr (q.elim (fun q => Or.inl (Or.inl q)) Or.inr)), fun q => q.elim Or.inl (fun q => Or.inr (q.elim (fun q => q.elim Or.inl (fun q => absurd q.1 c)) Or.inr))⟩)
    refine mt_ckF hS ob or_ o3 o4 o5 o6 o7 ?_ ?_ ?_ ?_
    · intro b c h1 g1 g2
      have e := me_nil g2
      subst e
      have : zr = mi_f h1 13963 := by omega
      rw [this] at hl
      exact ckx167 (S := fun x => S x ∨ j_7 h1 (mi_f h1 13963) x ∨ j_9 h1 (mi_f h1 13963) x) hL g1 hP (fun x q => p7 _ x (Int.le_refl _) q) 90 _ 0 _ _ _ _ _ (by decide) (by decide) b80.1 ob o3 o4 o5 o6 o7 (lo_cg hl (fun x => ⟨Or.inl, fun q => q.elim id (fun ⟨F, hF, _⟩ => by omega)⟩)) (fun x ⟨F, hF, _⟩ => by omega)
    · intro b c1 c2
      refine ⟨by omega, fun h1 g1 g2 => ?_⟩
      have e := me_nil g2
      subst e
      exact g118 _ c1 ob (same7 (fun q => by omega))
    · intro b c1 c2 c3
      refine ⟨by omega, fun h1 g1 g2 => ?_⟩
      have e := me_nil g2
      subst e
      exact g118 _ c1 ob (same7 (fun q => q.2 c3))
    · intro b c1 c2 c3
      refine ⟨by omega, fun h1 g1 g2 => ?_⟩
      have e := me_nil g2
      subst e
      have pl := hP.2.1 zr.toNat (by omega) c2
      refine ⟨_, me_leastx g1 ob (by decide) (by decide) pl.1 pl.2 (fun x q => p7 zr x (by omega) q) hl, fun w h5 ow hq => ?_⟩
      obtain ⟨e, z, rfl, oz, lz⟩ := hq
      subst e
      refine mt_ckG g1 ob or_ oz o3 o4 o5 o6 o7 ?_
      intro h2 t1 t2
      have e := me_nil t2
      subst e
      refine g118 _ c1 oz (lo_cg lz (fun x => ?_))
      rw [s7]
      have y : 0 < mi_a h2 122 zr.toNat ∧ mi_a h2 131 zr.toNat ≠ 0 := ⟨c2, c3⟩
      exact ⟨fun q => q.elim (fun q => q.elim Or.inl (fun q => Or.inr (q.elim (fun q => Or.inl (Or.inl q)) Or.inr))) (fun q => Or.inr (Or.inl (Or.inr ⟨y, q⟩))), fun q => q.elim (fun q => Or.inl (Or.inl q)) (fun q => q.elim (fun q => q.elim (fun q => Or.inl (Or.inr (Or.inl q))) (fun q => Or.inr q.2)) (fun q => Or.inl (Or.inr (Or.inr q))))⟩
def j_all (h : sm_H) (x : Int) : Prop := ((j_5 h (mi_f h 13961) x ∨ j_6 h (mi_f h 13961) x) ∨ j_7 h (mi_f h 13963) x ∨ j_9 h (mi_f h 13963) x) ∨ j_8 h (mi_f h 13965) x
theorem ckx4 (hL : sy_L h Y) (hS : ab_Sh sx_sk h) (hP : j_pl h) : ∀ (N : Nat) (zb zr : Int) (q3 q4 q5 q6 q7 : Option mi_V), 10 - zr < N → 0 ≤ zr → zr ≤ mi_f h 13961 → mi_in zb → (∀ v, q3 = some v → mi_ok v) → (∀ v, q4 = some v → mi_ok v) → (∀ v, q5 = some v → mi_ok v) → (∀ v, q6 = some v → mi_ok v) → (∀ v, q7 = some v → mi_ok v) → lo_S (fun x => j_5 h zr x ∨ j_6 h zr x) zb → me_E (d + 1) 201 4 [some (.inr (.inr 109)), some (.inl zb), some (.inl zr), q3, q4, q5, q6, q7] [] h (ck_X (j_all h) h) := by
  have b10 := me_fb (c := 13961) hS rfl
  have b60 := me_fb (c := 13963) hS rfl
  have h80 := hL.1.2.1
  have p5 : ∀ (n m x : Int), n ≤ mi_f h 13961 → m ≤ mi_f h 13961 → (j_5 h n x ∨ j_6 h m x) → 0 < x := by
    rintro n m x hn hm (⟨u, u1, u2, u3⟩ | ⟨u, u1, u2, u3⟩)
    · have := (hP.1 u (by omega)).1
      omega
    · have := (hP.1 u (by omega)).1
      omega
  intro N
  induction N with
  | zero => intro zb zr q3 q4 q5 q6 q7 hN _ _; exfalso; omega
  | succ N ih =>
    intro zb zr q3 q4 q5 q6 q7 hN r0 r1 ob o3 o4 o5 o6 o7 hl
    have or_ : mi_in zr := ⟨by omega, by omega⟩
    have s5 : ∀ x, j_5 h (zr + 1) x ↔ j_5 h zr x ∨ (tb (b64 (mi_a h 116 zr.toNat)) zr.toNat = true ∧ x = 5 + 16 * mi_a h 113 zr.toNat) := fun x => k_step (P := fun r => tb (b64 (mi_a h 116 r)) r = true) r0
    have s6 : ∀ x, j_6 h (zr + 1) x ↔ j_6 h zr x ∨ (1000 ≤ mi_a h 144 (mi_a h 114 zr.toNat).toNat ∧ x = 6 + 16 * mi_a h 113 zr.toNat) := fun x => k_step (P := fun r => 1000 ≤ mi_a h 144 (mi_a h 114 r).toNat) r0
    have nx : ∀ zb, zr < mi_f h 13961 → mi_in zb → lo_S (fun x => j_5 h (zr + 1) x ∨ j_6 h (zr + 1) x) zb → me_E (d + 1) 201 4 [some (.inr (.inr 109)), some (.inl zb), some (.inl (zr + 1)), q3, q4, q5, q6, q7] [] h (ck_X (j_all h) h) := fun zb lt ob hl => ih zb (zr + 1) _ _ _ _ _ (by omega) (by omega) (by omega) ob o3 o4 o5 o6 o7 hl
    have g39 : ∀ zb, zr < mi_f h 13961 → mi_in zb → lo_S (fun x => j_5 h (zr + 1) x ∨ j_6 h zr x) zb → me_E (d + 1) 201 39 [some (.inr (.inr 109)), some (.inl zb), some (.inl zr), q3, q4, q5, q6, q7] [] h (ck_X (j_all h) h) := fun zb lt0 ob hl => by
      have hr := hL.2.2.2.2 zr r0 lt0
      have pl := hP.1 zr.toNat (by omega)
      refine mt_ckD hS ob or_ o3 o4 o5 o6 o7 ?_ ?_
      · intro c
        refine ⟨by omega, fun h1 g1 g2 => ?_⟩
        have e := me_nil g2
        subst e
        refine nx _ lt0 ob (lo_cg hl (fun x => ?_))
        rw [s6]
        exact ⟨fun q => q.elim Or.inl (fun q => Or.inr (Or.inl q)), fun q => q.elim Or.inl (fun q => q.elim Or.inr (fun q => by have := q.1; omega))⟩
      · intro c
        refine ⟨by omega, fun h1 g1 g2 => ?_⟩
        have e := me_nil g2
        subst e
        refine ⟨_, me_leastx g1 ob (by decide) (by decide) pl.1 pl.2 (fun x q => p5 (zr + 1) zr x (by omega) (by omega) q) hl, fun w h5 ow hq => ?_⟩
        obtain ⟨e, z, rfl, oz, lz⟩ := hq
        subst e
        refine mt_ckE g1 ob or_ oz o3 o4 o5 o6 o7 ⟨by omega, fun h2 t1 t2 => ?_⟩
        have e := me_nil t2
        subst e
        refine nx _ lt0 oz (lo_cg lz (fun x => ?_))
        rw [s6]
        exact ⟨fun q => q.elim (fun q => q.elim Or.inl (fun q => Or.inr (Or.inl q))) (fun q => Or.inr (Or.inr ⟨c, q⟩)), fun q => q.elim (fun q => Or.inl (Or.inl q)) (fun q => q.elim (fun q => Or.inl (Or.inr q)) (fun q => Or.inr q.2))⟩
    have bit : zr < 10 → ((Int32.ofInt (Int32.ofInt (mi_a h 116 zr.toNat) >>> (Int32.ofInt zr &&& 31)).toInt &&& Int32.ofInt 1).toInt = 1 ↔ tb (b64 (mi_a h 116 zr.toNat)) zr.toNat = true) := fun lt => by
      have := (bit_b (mi_a h 116 zr.toNat) (q := zr.toNat) (by omega)).1
      rw [Int.toNat_of_nonneg r0] at this
      exact this
    refine mt_ckB hS ob or_ o3 o4 o5 o6 o7 ?_ ?_ ?_
    · intro b c h1 g1 g2
      have e := me_nil g2
      subst e
      have : zr = mi_f h1 13961 := by omega
      rw [this] at hl
      exact ckx78 (S := fun x => j_5 h1 (mi_f h1 13961) x ∨ j_6 h1 (mi_f h1 13961) x) hL g1 hP (fun x q => p5 _ _ x (Int.le_refl _) (Int.le_refl _) q) 70 _ 0 _ _ _ _ _ (by decide) (by decide) b60.1 ob o3 o4 o5 o6 o7 (lo_cg hl (fun x => ⟨Or.inl, fun q => q.elim id (fun q => q.elim (fun ⟨u, hu, _⟩ => by omega) (fun ⟨u, hu, _⟩ => by omega))⟩))
    · intro b c1 c2
      refine ⟨by omega, fun h1 g1 g2 => ?_⟩
      have e := me_nil g2
      subst e
      refine g39 _ c1 ob (lo_cg hl (fun x => ?_))
      rw [s5]
      have n := bit (by omega)
      exact ⟨fun q => q.elim (fun q => Or.inl (Or.inl q)) Or.inr, fun q => q.elim (fun q => q.elim Or.inl (fun q => absurd (n.mpr q.1) c2)) Or.inr⟩
    · intro b c1 c2
      refine ⟨by omega, fun h1 g1 g2 => ?_⟩
      have e := me_nil g2
      subst e
      have pl := hP.1 zr.toNat (by omega)
      refine ⟨_, me_leastx g1 ob (by decide) (by decide) pl.1 pl.2 (fun x q => p5 zr zr x (by omega) (by omega) q) hl, fun w h5 ow hq => ?_⟩
      obtain ⟨e, z, rfl, oz, lz⟩ := hq
      subst e
      refine mt_ckC g1 ob or_ oz o3 o4 o5 o6 o7 ?_
      intro h2 t1 t2
      have e := me_nil t2
      subst e
      refine g39 _ c1 oz (lo_cg lz (fun x => ?_))
      rw [s5]
      have n := (bit (by omega)).mp c2
      exact ⟨fun q => q.elim (fun q => q.elim (fun q => Or.inl (Or.inl q)) Or.inr) (fun q => Or.inl (Or.inr ⟨n, q⟩)), fun q => q.elim (fun q => q.elim (fun q => Or.inl (Or.inl q)) (fun q => Or.inr q.2)) (fun q => Or.inl (Or.inr q))⟩
theorem me_checkx (hL : sy_L h Y) (hS : ab_Sh sx_sk h) (hP : j_pl h) : me_E (d + 1) 201 0 [some (.inr (.inr 109)), none, none, none, none, none, none, none] [] h (ck_X (j_all h) h) := by
  have b10 := me_fb (c := 13961) hS rfl
  refine mt_ckA hS ?_
  intro h1 g1 g2
  have e := me_nil g2
  subst e
  exact ckx4 hL g1 hP 20 0 0 _ _ _ _ _ (by decide) (by decide) b10.1 ⟨by decide, by decide⟩ me_on me_on me_on me_on me_on (Or.inl ⟨rfl, fun x q => q.elim (fun ⟨u, hu, _⟩ => by omega) (fun ⟨u, hu, _⟩ => by omega)⟩)
theorem j_pos (hP : j_pl h) (hp8 : ∀ x, j_8 h (mi_f h 13965) x → 0 < x) : ∀ x, j_all h x → 0 < x := by
  rintro x (((⟨u, u1, u2, u3⟩ | ⟨u, u1, u2, u3⟩) | ⟨u, u1, u2, u3⟩ | ⟨u, u1, u2, u3⟩) | q)
  · have := (hP.1 u u1).1; omega
  · have := (hP.1 u u1).1; omega
  · have := (hP.2.1 u u1 u2.1).1; omega
  · have := (hP.2.1 u u1 u2.1).1; omega
  · exact hp8 x q
end CKX
/-! READING, purely: every unit stands in a line, every alternative in a form; o: of an alternative its form -/
def lk (g : wk_g) (u : Int) : Prop := (∃ a : Nat, (a : Int) < g 0 1 ∧ g 126 a = u) ∨ ∃ v : Nat, (v : Int) < g 0 0 ∧ (g 125 v = u ∨ g 124 v = u)
/-- not the second of a pair -/
def nm (g : wk_g) (z : Int) : Prop := ∀ v : Nat, (v : Int) < g 0 0 → g 124 v ≠ z
/-- the second of a pair goes on nowhere -/
def pk_m (g : wk_g) : Prop := ∀ v : Nat, (v : Int) < g 0 0 → 0 ≤ g 124 v → g 124 v < g 0 0 ∧ g 125 (g 124 v).toNat < 0
def pk_lev (o : Nat → Nat) (g : wk_g) (i : Nat) : Prop := (0 ≤ g 147 i ∧ g 147 i < g 0 1) ∧ g 149 i < g 0 0 ∧ (g 149 i < 0 → g 126 (g 147 i).toNat < 0) ∧ (0 ≤ g 149 i → g 125 (g 149 i).toNat < 0) ∧ (g 151 i ≠ 0 → 0 ≤ g 149 i ∧ g 124 (g 149 i).toNat < 0) ∧ g 128 (g 147 i).toNat < 0 ∧ o (g 147 i).toNat = (g 146 i).toNat ∧ (0 ≤ g 149 i → nm g (g 149 i))
def pk_a (o : Nat → Nat) (g : wk_g) : Prop :=
  (∀ a : Nat, (a : Int) < g 0 1 → (∃ f : Nat, (f : Int) < g 0 2 ∧ g 129 f = a) ∨ ∃ b : Nat, b < a ∧ g 128 b = a) ∧
  (∀ f : Nat, (f : Int) < g 0 2 → 0 ≤ g 130 f ∧ (g 130 f = 0 → g 129 f < 0) ∧ g 129 f < g 0 1 ∧ (0 ≤ g 129 f → o (g 129 f).toNat = f)) ∧
  (∀ a : Nat, (a : Int) < g 0 1 → g 128 a < g 0 1 ∧ (0 ≤ g 128 a → o (g 128 a).toNat = o a))
def PK (o : Nat → Nat) (g : wk_g) (m x : Int) : Prop :=
  (0 ≤ g 0 0 ∧ 0 ≤ g 0 1 ∧ 0 ≤ g 0 2 ∧ 0 ≤ g 0 5) ∧
  (∀ i : Nat, (i : Int) ≤ m → pk_lev o g i) ∧
  (∀ i : Nat, (i : Int) ≤ g 0 5 → 0 ≤ g 146 i ∧ g 146 i < g 0 2) ∧
  (∀ i : Nat, 1 ≤ i → (i : Int) ≤ g 0 5 → 0 ≤ g 148 i ∧ g 148 i < g 0 0 ∧ g 124 (g 148 i).toNat < 0 ∧ g 125 (g 148 i).toNat < 0 ∧ nm g (g 148 i)) ∧
  (∀ i j : Nat, i < j → (j : Int) ≤ m → g 147 i < g 147 j) ∧
  (∀ i j : Nat, i < j → (j : Int) ≤ g 0 5 → ((i : Int) ≤ m → g 149 i < g 148 j) ∧ (1 ≤ i → g 148 i < g 148 j)) ∧
  (∀ i j : Nat, 1 ≤ i → i ≤ j → (j : Int) ≤ m → 0 ≤ g 149 j → g 148 i < g 149 j) ∧
  (∀ u : Nat, (u : Int) < g 0 0 → (u : Int) = x ∨ lk g u ∨ ∃ i : Nat, 1 ≤ i ∧ (i : Int) ≤ g 0 5 ∧ g 148 i = u) ∧ ((0 ≤ x → nm g x) ∧ pk_m g) ∧ pk_a o g
/-- what of it holds between rules -/
def PKr (o : Nat → Nat) (g : wk_g) : Prop := (0 ≤ g 0 0 ∧ 0 ≤ g 0 1 ∧ 0 ≤ g 0 2) ∧ (∀ u : Nat, (u : Int) < g 0 0 → lk g u) ∧ pk_m g ∧ pk_a o g
section PKS
variable {o : Nat → Nat} {g g' : wk_g} {m x : Int}
theorem PK_cg (h : PK o g m x) (e0 : g' 0 0 = g 0 0 ∧ g' 0 1 = g 0 1 ∧ g' 0 2 = g 0 2 ∧ g' 0 5 = g 0 5) (e : ∀ r, r ∈ [124, 125, 126, 128, 129, 130, 146, 147, 148, 149, 151] → g' r = g r) : PK o g' m x := by
  obtain ⟨a0, a1, a2, a5⟩ := e0
  have b := fun r hr => e r hr
  unfold PK pk_lev pk_a lk pk_m nm
  rw [a0, a1, a2, a5, b 124 (by decide), b 125 (by decide), b 126 (by decide), b 128 (by decide), b 129 (by decide), b 130 (by decide), b 146 (by decide), b 147 (by decide), b 148 (by decide), b 149 (by decide), b 151 (by decide)]
  exact h
theorem PK_unit {s w p : Int} (h : PK o g m (-1)) : PK o (rf_unit g s w p) m (g 0 0) ∧ (rf_unit g s w p) 124 (g 0 0).toNat < 0 ∧ (rf_unit g s w p) 125 (g 0 0).toNat < 0 := by
  obtain ⟨⟨n0, n1, n2, n5⟩, h1, h2, h3, h4, h5, h6, h7, ⟨-, hm⟩, h8⟩ := h
  have r124 : ∀ i, (rf_unit g s w p) 124 i = if i = (g 0 0).toNat then -1 else g 124 i := fun _ => rfl
  have r125 : ∀ i, (rf_unit g s w p) 125 i = if i = (g 0 0).toNat then -1 else g 125 i := fun _ => rfl
  have k124 : ∀ z : Int, g 124 z.toNat < 0 → (rf_unit g s w p) 124 z.toNat < 0 := fun z q => by rw [r124]; split; decide; exact q
  have k125 : ∀ z : Int, g 125 z.toNat < 0 → (rf_unit g s w p) 125 z.toNat < 0 := fun z q => by rw [r125]; split; decide; exact q
  have knm : ∀ z : Int, 0 ≤ z → nm g z → nm (rf_unit g s w p) z := fun z z0 q v hv => by
    have hv : (v : Int) < g 0 0 + 1 := hv
    rw [r124]
    by_cases c : v = (g 0 0).toNat
    · rw [if_pos c]; omega
    · rw [if_neg c]; exact q v (by omega)
  refine ⟨⟨⟨by show 0 ≤ g 0 0 + 1; omega, n1, n2, n5⟩, fun i hi => ?_, h2, fun i i1 i2 => ?_, h4, h5, h6, fun u hu => ?_, ⟨fun _ v hv => ?_, fun v hv q => ?_⟩, h8⟩, ?_, ?_⟩
  · obtain ⟨l1, l2, l3, l4, l5, l6, l7, l8⟩ := h1 i hi
    exact ⟨l1, by show g 149 i < g 0 0 + 1; omega, l3, fun q => k125 _ (l4 q), fun q => ⟨(l5 q).1, k124 _ (l5 q).2⟩, l6, l7, fun q => knm _ q (l8 q)⟩
  · obtain ⟨l1, l2, l3, l4, l5⟩ := h3 i i1 i2
    exact ⟨l1, by show g 148 i < g 0 0 + 1; omega, k124 _ l3, k125 _ l4, knm _ l1 l5⟩
  · have hu : (u : Int) < g 0 0 + 1 := hu
    by_cases c : (u : Int) = g 0 0
    · exact Or.inl c
    · refine Or.inr ?_
      rcases h7 u (by omega) with q | q | q
      · omega
      · refine Or.inl ?_
        rcases q with ⟨a, a1, a2⟩ | ⟨v, v1, v2⟩
        · exact Or.inl ⟨a, a1, a2⟩
        · refine Or.inr ⟨v, by show (v : Int) < g 0 0 + 1; omega, ?_⟩
          have n : v ≠ (g 0 0).toNat := by omega
          rw [r124, r125, if_neg n, if_neg n]
          exact v2
      · exact Or.inr q
  · have hv : (v : Int) < g 0 0 + 1 := hv
    rw [r124]
    by_cases c : v = (g 0 0).toNat
    · rw [if_pos c]; omega
    · rw [if_neg c]
      by_cases c0 : 0 ≤ g 124 v
      · have := (hm v (by omega) c0).1
        omega
      · omega
  · have hv : (v : Int) < g 0 0 + 1 := hv
    rw [r124] at q ⊢
    by_cases c : v = (g 0 0).toNat
    · rw [if_pos c] at q; exact absurd q (by decide)
    · rw [if_neg c] at q ⊢
      have := hm v (by omega) q
      exact ⟨by show g 124 v < g 0 0 + 1; omega, k125 _ this.2⟩
  · rw [r124, if_pos rfl]; decide
  · rw [r125, if_pos rfl]; decide
theorem PK_beg {p : Int} (h : PK o g m x) (hm : g 0 5 - 1 ≤ m) (hb : g 130 (g 146 (g 0 5).toNat).toNat ≠ 0 → g 0 5 ≤ m) : PK (fun a => if a = (g 0 1).toNat then (g 146 (g 0 5).toNat).toNat else o a) (rf_beg g p) (g 0 5) x := by
  obtain ⟨⟨n0, n1, n2, n5⟩, h1, h2, h3, h4, h5, h6, h7, hx, h8, h9, h10⟩ := h
  obtain ⟨k, hk⟩ : ∃ k : Nat, k = (g 0 5).toNat := ⟨_, rfl⟩
  have ek : (k : Int) = g 0 5 := by omega
  have r126 : ∀ i, (rf_beg g p) 126 i = if i = (g 0 1).toNat then -1 else g 126 i := fun _ => rfl
  have r128 : ∀ i, (rf_beg g p) 128 i = if g 130 (g 146 (g 0 5).toNat).toNat ≠ 0 ∧ i = (g 147 (g 0 5).toNat).toNat then g 0 1 else if i = (g 0 1).toNat then -1 else g 128 i := fun _ => rfl
  have r129 : ∀ i, (rf_beg g p) 129 i = if g 130 (g 146 (g 0 5).toNat).toNat = 0 ∧ i = (g 146 (g 0 5).toNat).toNat then g 0 1 else g 129 i := fun _ => rfl
  have r130 : ∀ i, (rf_beg g p) 130 i = if i = (g 146 (g 0 5).toNat).toNat then g 130 i + 1 else g 130 i := fun _ => rfl
  have r147 : ∀ i, (rf_beg g p) 147 i = if i = (g 0 5).toNat then g 0 1 else g 147 i := fun _ => rfl
  have r149 : ∀ i, (rf_beg g p) 149 i = if i = (g 0 5).toNat then -1 else g 149 i := fun _ => rfl
  have r151 : ∀ i, (rf_beg g p) 151 i = if i = (g 0 5).toNat then 0 else g 151 i := fun _ => rfl
  rw [← hk] at r128 r129 r130 r147 r149 r151 hb
  rw [← hk]
  obtain ⟨f0, f1⟩ := h2 k (by omega)
  have top : g 130 (g 146 k).toNat ≠ 0 → pk_lev o g k := fun q => h1 k (by have := hb q; omega)
  have low : ∀ i : Nat, (i : Int) ≤ g 0 5 → i ≠ k → (i : Int) ≤ m := fun i hi hn => by omega
  have n128 : ∀ i : Nat, (i : Int) ≤ g 0 5 → i ≠ k → ¬ (g 130 (g 146 k).toNat ≠ 0 ∧ (g 147 i).toNat = (g 147 k).toNat) := fun i hi hn q => by
    have a := h4 i k (by omega) (by have := hb q.1; omega)
    have b := (top q.1).1
    have c := (h1 i (low i hi hn)).1
    omega
  refine ⟨⟨n0, by show 0 ≤ g 0 1 + 1; omega, n2, n5⟩, fun i hi => ?_, h2, h3, fun i j hij hj => ?_, fun i j hij hj => ⟨fun _ => ?_, ((h5 i j hij hj).2)⟩, fun i j i1 hij hj hq => ?_, fun u hu => ?_, hx, fun a ha => ?_, fun f hf => ?_, fun a ha => ?_⟩
  · by_cases c : i = k
    · subst c
      unfold pk_lev
      rw [r147, r149, r151, if_pos rfl, if_pos rfl, if_pos rfl, r126, if_pos rfl, r128, if_neg (fun q => by have := (top q.1).1; have q2 := q.2; omega), if_pos rfl]
      exact ⟨⟨n1, by show g 0 1 < g 0 1 + 1; omega⟩, by show (-1 : Int) < g 0 0; omega, fun _ => by decide, fun q => absurd q (by decide), fun q => absurd rfl q, by decide, if_pos rfl, fun q => absurd q (by decide)⟩
    · obtain ⟨l1, l2, l3, l4, l5, l6, l7, l8⟩ := h1 i (low i hi c)
      have na : (g 147 i).toNat ≠ (g 0 1).toNat := by omega
      unfold pk_lev
      rw [r147, r149, r151, if_neg c, if_neg c, if_neg c, r126, if_neg na, r128, if_neg (n128 i hi c), if_neg na]
      exact ⟨⟨l1.1, by show g 147 i < g 0 1 + 1; omega⟩, l2, l3, l4, l5, l6, (if_neg na).trans l7, l8⟩
  · have ci : i ≠ k := by omega
    rw [r147, r147, if_neg ci]
    by_cases cj : j = k
    · rw [if_pos cj]
      have := (h1 i (low i (by omega) ci)).1
      omega
    · rw [if_neg cj]
      exact h4 i j hij (low j hj cj)
  · have ci : i ≠ k := by have : (j : Int) ≤ g 0 5 := hj; omega
    rw [r149, if_neg ci]
    exact (h5 i j hij hj).1 (low i (by have : (j : Int) ≤ g 0 5 := hj; omega) ci)
  · rw [r149] at hq ⊢
    by_cases cj : j = k
    · rw [if_pos cj] at hq; exact absurd hq (by decide)
    · rw [if_neg cj] at hq ⊢
      exact h6 i j i1 hij (low j hj cj) hq
  · rcases h7 u hu with q | q | q
    · exact Or.inl q
    · refine Or.inr (Or.inl ?_)
      rcases q with ⟨a, a1, a2⟩ | ⟨v, v1, v2⟩
      · refine Or.inl ⟨a, by show (a : Int) < g 0 1 + 1; omega, ?_⟩
        rw [r126, if_neg (by omega)]
        exact a2
      · exact Or.inr ⟨v, v1, v2⟩
    · exact Or.inr (Or.inr q)
  · have ha : (a : Int) < g 0 1 + 1 := ha
    by_cases ca : (a : Int) = g 0 1
    · by_cases c0 : g 130 (g 146 k).toNat = 0
      · refine Or.inl ⟨(g 146 k).toNat, by show ((g 146 k).toNat : Int) < g 0 2; omega, ?_⟩
        rw [r129, if_pos ⟨c0, rfl⟩, ca]
      · have t := (top c0).1
        refine Or.inr ⟨(g 147 k).toNat, by omega, ?_⟩
        rw [r128, if_pos ⟨c0, rfl⟩, ca]
    · rcases h8 a (by omega) with ⟨f, f2, f3⟩ | ⟨b, b1, b2⟩
      · refine Or.inl ⟨f, f2, ?_⟩
        rw [r129, if_neg (fun q => by have := (h9 f f2).2.1 (by rw [q.2]; exact q.1); omega)]
        exact f3
      · refine Or.inr ⟨b, b1, ?_⟩
        rw [r128, if_neg (fun q => by have := (top q.1).2.2.2.2.2.1; rw [← q.2] at this; omega), if_neg (by omega)]
        exact b2
  · obtain ⟨l1, l2, l3, l4⟩ := h9 f hf
    rw [r130, r129]
    by_cases cf : f = (g 146 k).toNat
    · rw [if_pos cf]
      refine ⟨by omega, fun q => by omega, ?_⟩
      by_cases c0 : g 130 (g 146 k).toNat = 0
      · rw [if_pos ⟨c0, cf⟩]
        exact ⟨by show g 0 1 < g 0 1 + 1; omega, fun _ => (if_pos rfl).trans cf.symm⟩
      · rw [if_neg (fun q => c0 q.1)]
        exact ⟨by show g 129 f < g 0 1 + 1; omega, fun q => (if_neg (by omega)).trans (l4 q)⟩
    · rw [if_neg cf, if_neg (fun q => cf q.2)]
      exact ⟨l1, l2, by show g 129 f < g 0 1 + 1; omega, fun q => (if_neg (by omega)).trans (l4 q)⟩
  · have ha : (a : Int) < g 0 1 + 1 := ha
    rw [r128]
    by_cases c0 : g 130 (g 146 k).toNat ≠ 0 ∧ a = (g 147 k).toNat
    · rw [if_pos c0]
      refine ⟨by show g 0 1 < g 0 1 + 1; omega, fun _ => ?_⟩
      have t := top c0.1
      show (if (g 0 1).toNat = (g 0 1).toNat then (g 146 k).toNat else o (g 0 1).toNat) = if a = (g 0 1).toNat then (g 146 k).toNat else o a
      rw [if_pos rfl, if_neg (by have := t.1; omega), c0.2]
      exact t.2.2.2.2.2.2.1.symm
    · rw [if_neg c0]
      by_cases ca : a = (g 0 1).toNat
      · rw [if_pos ca]
        exact ⟨by show (-1 : Int) < g 0 1 + 1; omega, fun q => absurd q (by decide)⟩
      · rw [if_neg ca]
        obtain ⟨l1, l2⟩ := h10 a (by omega)
        refine ⟨by show g 128 a < g 0 1 + 1; omega, fun q => ?_⟩
        show (if (g 128 a).toNat = (g 0 1).toNat then (g 146 k).toNat else o (g 128 a).toNat) = if a = (g 0 1).toNat then (g 146 k).toNat else o a
        rw [if_neg (by omega), if_neg ca]
        exact l2 q
theorem PK_put {u : Int} (h : PK o g (g 0 5) u) (u0 : 0 ≤ u) (u1 : u < g 0 0) (u2 : g 124 u.toNat < 0) (u3 : g 125 u.toNat < 0) (ho : ∀ i : Nat, 1 ≤ i → (i : Int) ≤ g 0 5 → g 148 i < u) (hl : ∀ i : Nat, (i : Int) ≤ g 0 5 → g 149 i < u) : PK o (rf_put g u) (g 0 5) (-1) ∧ (g 151 (g 0 5).toNat = 0 → (rf_put g u) 149 (g 0 5).toNat = u ∧ (rf_put g u) 124 u.toNat < 0) := by
  obtain ⟨⟨n0, n1, n2, n5⟩, h1, h2, h3, h4, h5, h6, h7, ⟨hnx, hm⟩, h8⟩ := h
  obtain ⟨k, hk⟩ : ∃ k : Nat, k = (g 0 5).toNat := ⟨_, rfl⟩
  have ek : (k : Int) = g 0 5 := by omega
  have r124 : ∀ i, (rf_put g u) 124 i = if g 151 (g 0 5).toNat ≠ 0 ∧ i = (g 149 (g 0 5).toNat).toNat then u else g 124 i := fun _ => rfl
  have r125 : ∀ i, (rf_put g u) 125 i = if g 151 (g 0 5).toNat = 0 ∧ 0 ≤ g 149 (g 0 5).toNat ∧ i = (g 149 (g 0 5).toNat).toNat then u else g 125 i := fun _ => rfl
  have r126 : ∀ i, (rf_put g u) 126 i = if g 151 (g 0 5).toNat = 0 ∧ g 149 (g 0 5).toNat < 0 ∧ i = (g 147 (g 0 5).toNat).toNat then u else g 126 i := fun _ => rfl
  have r149 : ∀ i, (rf_put g u) 149 i = if g 151 (g 0 5).toNat = 0 ∧ i = (g 0 5).toNat then u else g 149 i := fun _ => rfl
  have r151 : ∀ i, (rf_put g u) 151 i = if i = (g 0 5).toNat then 0 else g 151 i := fun _ => rfl
  rw [← hk] at r124 r125 r126 r149 r151
  rw [← hk]
  obtain ⟨t1, t2, t3, t4, t5, t6, t7, t8⟩ := h1 k (by omega)
  have hlk := hl k (by omega)
  have k148 : ∀ i : Nat, 1 ≤ i → (i : Int) ≤ g 0 5 → 0 ≤ g 149 k → (g 148 i).toNat ≠ (g 149 k).toNat := fun i i1 i2 q => by
    have a := h6 i k i1 (by omega) (by omega) q
    have b := h3 i i1 i2
    omega
  have k149 : ∀ i : Nat, (i : Int) ≤ g 0 5 → i ≠ k → 0 ≤ g 149 i → 0 ≤ g 149 k → (g 149 i).toNat ≠ (g 149 k).toNat := fun i hi hn q q2 => by
    have a := (h5 i k (by omega) (by omega)).1 hi
    have b := h6 k k (by omega) (Nat.le_refl _) (by omega) q2
    omega
  have k147 : ∀ i : Nat, (i : Int) ≤ g 0 5 → i ≠ k → (g 147 i).toNat ≠ (g 147 k).toNat := fun i hi hn => by
    have a := h4 i k (by omega) (by omega)
    have b := (h1 i hi).1
    omega
  have knm : ∀ z : Int, z ≠ u → nm g z → nm (rf_put g u) z := fun z z0 q v hv => by
    rw [r124]
    by_cases c : g 151 k ≠ 0 ∧ v = (g 149 k).toNat
    · rw [if_pos c]; exact fun e => z0 e.symm
    · rw [if_neg c]; exact q v hv
  have nuk : 0 ≤ g 149 k → u.toNat ≠ (g 149 k).toNat := fun q => by omega
  refine ⟨⟨⟨n0, n1, n2, n5⟩, fun i hi => ?_, h2, fun i i1 i2 => ?_, h4, fun i j hij hj => ⟨fun hi => ?_, (h5 i j hij hj).2⟩, fun i j i1 hij hj hq => ?_, fun v hv => ?_, ⟨fun q => absurd q (by decide), fun v hv q => ?_⟩, h8⟩, fun q => ?_⟩
  · by_cases c : i = k
    · rw [c]
      unfold pk_lev
      have e47 : (rf_put g u) 147 k = g 147 k := rfl
      have e28 : (rf_put g u) 128 = g 128 := rfl
      have e46 : (rf_put g u) 146 k = g 146 k := rfl
      rw [e47, e28, e46, r151, if_pos rfl, r149]
      by_cases c0 : g 151 k = 0
      · rw [if_pos ⟨c0, rfl⟩]
        refine ⟨t1, u1, fun q => by omega, fun _ => ?_, fun q => absurd rfl q, t6, t7, fun q v hv => ?_⟩
        · rw [r125, if_neg (fun q => nuk q.2.1 q.2.2)]
          exact u3
        · rw [r124, if_neg (fun q => q.1 c0)]
          exact hnx u0 v hv
      · rw [if_neg (fun q => c0 q.1)]
        obtain ⟨s1, s2⟩ := t5 c0
        refine ⟨t1, t2, fun q => by omega, fun q => ?_, fun q => absurd rfl q, t6, t7, fun q => knm _ (by omega) (t8 q)⟩
        rw [r125, if_neg (fun q => c0 q.1)]
        exact t4 q
    · obtain ⟨l1, l2, l3, l4, l5, l6, l7, l8⟩ := h1 i hi
      unfold pk_lev
      have e47 : (rf_put g u) 147 i = g 147 i := rfl
      have e28 : (rf_put g u) 128 = g 128 := rfl
      have e46 : (rf_put g u) 146 i = g 146 i := rfl
      rw [e47, e28, e46, r151, if_neg c, r149, if_neg (fun q => c q.2)]
      refine ⟨l1, l2, fun q => ?_, fun q => ?_, fun q => ⟨(l5 q).1, ?_⟩, l6, l7, fun q => knm _ (by have := hl i hi; omega) (l8 q)⟩
      · rw [r126, if_neg (fun z => k147 i hi c z.2.2)]
        exact l3 q
      · rw [r125, if_neg (fun z => k149 i hi c q z.2.1 z.2.2)]
        exact l4 q
      · rw [r124, if_neg (fun z => k149 i hi c (l5 q).1 (t5 z.1).1 z.2)]
        exact (l5 q).2
  · obtain ⟨l1, l2, l3, l4, l5⟩ := h3 i i1 i2
    have e48 : (rf_put g u) 148 i = g 148 i := rfl
    rw [e48]
    refine ⟨l1, l2, ?_, ?_, knm _ (by have := ho i i1 i2; omega) l5⟩
    · rw [r124, if_neg (fun z => k148 i i1 i2 (t5 z.1).1 z.2)]
      exact l3
    · rw [r125, if_neg (fun z => k148 i i1 i2 z.2.1 z.2.2)]
      exact l4
  · have hj : (j : Int) ≤ g 0 5 := hj
    rw [r149, if_neg (fun q => by have := q.2; omega)]
    exact (h5 i j hij hj).1 hi
  · rw [r149] at hq ⊢
    by_cases c : g 151 k = 0 ∧ j = k
    · rw [if_pos c]
      exact ho i i1 (by omega)
    · rw [if_neg c] at hq ⊢
      exact h6 i j i1 hij hj hq
  · by_cases cv : (v : Int) = u
    · refine Or.inr (Or.inl ?_)
      rw [cv]
      by_cases c0 : g 151 k = 0
      · by_cases c1 : 0 ≤ g 149 k
        · refine Or.inr ⟨(g 149 k).toNat, by show ((g 149 k).toNat : Int) < g 0 0; omega, Or.inl ?_⟩
          rw [r125, if_pos ⟨c0, c1, rfl⟩]
        · refine Or.inl ⟨(g 147 k).toNat, by show ((g 147 k).toNat : Int) < g 0 1; omega, ?_⟩
          rw [r126, if_pos ⟨c0, by omega, rfl⟩]
      · have s := t5 c0
        refine Or.inr ⟨(g 149 k).toNat, by show ((g 149 k).toNat : Int) < g 0 0; omega, Or.inr ?_⟩
        rw [r124, if_pos ⟨c0, rfl⟩]
    · refine Or.inr ?_
      rcases h7 v hv with q | q | q
      · exact absurd q cv
      · refine Or.inl ?_
        rcases q with ⟨a, a1, a2⟩ | ⟨w, w1, w2⟩
        · refine Or.inl ⟨a, a1, ?_⟩
          rw [r126, if_neg (fun z => by have := t3 z.2.1; rw [← z.2.2] at this; omega)]
          exact a2
        · refine Or.inr ⟨w, w1, ?_⟩
          rcases w2 with w2 | w2
          · refine Or.inl ?_
            rw [r125, if_neg (fun z => by have := t4 z.2.1; rw [← z.2.2] at this; omega)]
            exact w2
          · refine Or.inr ?_
            rw [r124, if_neg (fun z => by have := (t5 z.1).2; rw [← z.2] at this; omega)]
            exact w2
      · exact Or.inr q
  · rw [r124] at q ⊢
    by_cases c : g 151 k ≠ 0 ∧ v = (g 149 k).toNat
    · rw [if_pos c]
      refine ⟨u1, ?_⟩
      rw [r125, if_neg (fun z => c.1 z.1)]
      exact u3
    · rw [if_neg c] at q ⊢
      obtain ⟨m1, m2⟩ := hm v hv q
      refine ⟨m1, ?_⟩
      rw [r125, if_neg (fun z => t8 z.2.1 v hv (by have := z.2.2; omega))]
      exact m2
  · rw [r149, if_pos ⟨q, rfl⟩, r124, if_neg (fun z => z.1 q)]
    exact ⟨rfl, u2⟩
end PKS
