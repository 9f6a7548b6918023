/-! begins as a second system of the same kind -/
def b64 (z : Int) : Int64 := (Int32.ofInt z).toInt64
def bitC (F : Int) : Int64 := (Int32.ofInt 1 <<< (Int32.ofInt F &&& 31)).toInt64
/-- what a part brings -/
def cb_C (B : Nat → Int64) (p : sp_P) : Int64 := if 0 ≤ p.1 then (if p.2.1 ≠ 0 then bitC p.1 ||| B p.1.toNat else B p.1.toNat) else 0
def sb_a (X : sp_X) : List sp_P → Int64
  | [] => 0
  | p :: r => if sp_e X p then cb_C X.2.1 p ||| sb_a X r else cb_C X.2.1 p
theorem sb_a_c {X : sp_X} {p : sp_P} {r : List sp_P} : sb_a X (p :: r) = if sp_e X p then cb_C X.2.1 p ||| sb_a X r else cb_C X.2.1 p := rfl
def sb_f (X : sp_X) : List (List sp_P) → Int64
  | [] => 0
  | a :: r => sb_a X a ||| sb_f X r
theorem sb_f_c {X : sp_X} {a : List sp_P} {r : List (List sp_P)} : sb_f X (a :: r) = sb_a X a ||| sb_f X r := rfl
/-- the same by starts: before a use a part that may be passed, with its bit -/
def bp (p : sp_P) : List sp_P := if 0 ≤ p.1 ∧ p.2.1 ≠ 0 then [(-1, 0, 1, 1, bitC p.1), (p.1, p.2.1, p.2.2.1, p.2.2.2.1, 0)] else [(p.1, p.2.1, p.2.2.1, p.2.2.2.1, 0)]
def bl (us : List sp_P) : List sp_P := us.flatMap bp
def bG (G : sg_G) : sg_G := fun F => (G F).map bl
theorem b64_or (a b : Int) : b64 (Int32.ofInt a ||| Int32.ofInt b).toInt = b64 a ||| b64 b := by
  unfold b64
  rw [Int32.ofInt_toInt, Int32.toInt64_or]
theorem b64_0 : b64 0 = 0 := rfl
theorem or_0l (x : Int64) : 0 ||| x = x := tb_ext (fun b => by rw [tb_or, tb_0, Bool.false_or])
section BPL
variable {X : sp_X}
theorem bl_c (p : sp_P) (r : List sp_P) : bl (p :: r) = bp p ++ bl r := rfl
theorem bp_h {p : sp_P} : sp_h X (p.1, p.2.1, p.2.2.1, p.2.2.2.1, 0) = sp_h X p := rfl
theorem bl_v : ∀ us : List sp_P, sa_v X (bl us) = sa_v X us := by
  intro us
  induction us with
  | nil => rfl
  | cons p r ih =>
    rw [bl_c]
    unfold bp
    split
    · show sa_v X ((-1, 0, 1, 1, bitC p.1) :: (p.1, p.2.1, p.2.2.1, p.2.2.2.1, 0) :: bl r) = _
      rw [sa_v_c, if_pos (Or.inl (show (1 : Int) ≠ 0 from by decide)), sa_v_c, sa_v_c, ih]
      rfl
    · show sa_v X ((p.1, p.2.1, p.2.2.1, p.2.2.2.1, 0) :: bl r) = _
      rw [sa_v_c, sa_v_c, ih]
      rfl
theorem bl_h : ∀ us : List sp_P, sa_h X (bl us) = sa_h X us := by
  intro us
  induction us with
  | nil => rfl
  | cons p r ih =>
    have h0 := sa_h_0 X r
    rw [bl_c]
    unfold bp
    split
    · show sa_h X ((-1, 0, 1, 1, bitC p.1) :: (p.1, p.2.1, p.2.2.1, p.2.2.2.1, 0) :: bl r) = _
      rw [sa_h_c, sa_h_c, sa_h_c, ih, bp_h]
      have : sp_h X (-1, 0, 1, 1, bitC p.1) = 0 := by unfold sp_h; rw [if_pos (show (1 : Int) ≠ 0 from by decide)]
      rw [this]
      omega
    · show sa_h X ((p.1, p.2.1, p.2.2.1, p.2.2.2.1, 0) :: bl r) = _
      rw [sa_h_c, sa_h_c, ih, bp_h]
theorem bl_s : ∀ us : List sp_P, sa_s X (bl us) = sb_a X us := by
  intro us
  induction us with
  | nil => rfl
  | cons p r ih =>
    rw [bl_c, sb_a_c]
    have e0 : sp_s X (p.1, p.2.1, p.2.2.1, p.2.2.2.1, 0) = if 0 ≤ p.1 then X.2.1 p.1.toNat else 0 := rfl
    unfold bp
    split
    · next c =>
      show sa_s X ((-1, 0, 1, 1, bitC p.1) :: (p.1, p.2.1, p.2.2.1, p.2.2.2.1, 0) :: bl r) = _
      have e1 : sp_s X (-1, 0, 1, 1, bitC p.1) = bitC p.1 := by unfold sp_s; rw [if_neg (show ¬ (0 : Int) ≤ -1 from by decide)]
      have e2 : cb_C X.2.1 p = bitC p.1 ||| X.2.1 p.1.toNat := by unfold cb_C; rw [if_pos c.1, if_pos c.2]
      rw [sa_s_c, if_pos (Or.inl (show (1 : Int) ≠ 0 from by decide)), e1, sa_s_c, e0, if_pos c.1, ih, e2]
      by_cases ce : sp_e X p
      · rw [if_pos ce, if_pos (show sp_e X (p.1, p.2.1, p.2.2.1, p.2.2.2.1, 0) from ce), or_as]
      · rw [if_neg ce, if_neg (show ¬ sp_e X (p.1, p.2.1, p.2.2.1, p.2.2.2.1, 0) from ce)]
    · next c =>
      show sa_s X ((p.1, p.2.1, p.2.2.1, p.2.2.2.1, 0) :: bl r) = _
      have e2 : cb_C X.2.1 p = if 0 ≤ p.1 then X.2.1 p.1.toNat else 0 := by
        unfold cb_C
        by_cases c0 : 0 ≤ p.1
        · rw [if_pos c0, if_pos c0, if_neg (fun q => c ⟨c0, q⟩)]
        · rw [if_neg c0, if_neg c0]
      rw [sa_s_c, e0, ih, e2]
      by_cases ce : sp_e X p
      · rw [if_pos ce, if_pos (show sp_e X (p.1, p.2.1, p.2.2.1, p.2.2.2.1, 0) from ce)]
      · rw [if_neg ce, if_neg (show ¬ sp_e X (p.1, p.2.1, p.2.2.1, p.2.2.2.1, 0) from ce)]
theorem bG_f : ∀ as : List (List sp_P), sf_v X (as.map bl) = sf_v X as ∧ sf_s X (as.map bl) = sb_f X as ∧ sf_h X (as.map bl) = sf_h X as := by
  intro as
  induction as with
  | nil => exact ⟨rfl, rfl, rfl⟩
  | cons a r ih =>
    obtain ⟨i1, i2, i3⟩ := ih
    rw [List.map_cons, sf_v_c, sf_v_c, sf_s_c, sb_f_c, sf_h_c, sf_h_c, bl_v, bl_s, bl_h, i1, i2, i3]
    exact ⟨rfl, rfl, rfl⟩
theorem bG_OK {n : Nat} {G : sg_G} (h : sg_OK n G) : sg_OK n (bG G) := by
  intro F hF us hus
  obtain ⟨vs, hv, rfl⟩ := List.mem_map.mp hus
  obtain ⟨o1, o2⟩ := h F hF vs hv
  have k : ∀ q ∈ bl vs, q.1 < n ∧ 0 ≤ q.2.1 := by
    intro q hq
    obtain ⟨p, hp, hq⟩ := List.mem_flatMap.mp hq
    have p1 := o1 p hp
    have p2 := o2 p hp
    unfold bp at hq
    split at hq
    · rcases List.mem_cons.mp hq with rfl | hq
      · exact ⟨by show (-1 : Int) < n; omega, show (0 : Int) ≤ 0 from by decide⟩
      · rw [List.mem_singleton.mp hq]
        exact ⟨p1, p2⟩
    · rw [List.mem_singleton.mp hq]
      exact ⟨p1, p2⟩
  exact ⟨fun q hq => (k q hq).1, fun q hq => (k q hq).2⟩
end BPL
/-! the class's Sets: an alternative's begins -/
def cB (h : sm_H) : sp_X := (mi_a h 79, fun F => b64 (mi_a h 83 F), mi_a h 82)
def at_same (h h' : sm_H) (a : Nat) : Prop := mi_a h' 84 a = mi_a h 84 a ∧ mx_b h' 85 a = mx_b h 85 a ∧ mi_a h' 87 a = mi_a h 87 a
def rb_Q (hb h : sm_H) (za ze zb : Int) (row : List Int) (w : Option mi_V) (h' : sm_H) : Prop := w = none ∧ ab_Sh sx_sk h' ∧ ab_Fr ra_V hb h' ∧
  b64 (mi_a h' 86 za.toNat) = (if ze ≠ 0 then b64 zb ||| sb_a (cB hb) (row.map (cv_p hb)) else b64 zb) ∧ ∀ i : Nat, i ≠ za.toNat → at_same h h' i
theorem cB_fr {h h' : sm_H} {wr : List (Nat × Nat)} (hF : ab_Fr wr h h') (hS : ab_Sh sx_sk h) (hw : (ab_in wr 10112 || ab_in wr 10624 || ab_in wr 10496) = false) : cB h' = cB h := by
  simp only [Bool.or_eq_false_iff] at hw
  unfold cB
  rw [show mi_a h' 79 = mi_a h 79 from funext fun i => me_a (k := 79) hF hS rfl hw.1.1, show mi_a h' 83 = mi_a h 83 from funext fun i => me_a (k := 83) hF hS rfl hw.1.2, show mi_a h' 82 = mi_a h 82 from funext fun i => me_a (k := 82) hF hS rfl hw.2]
section RBL
variable {d : Nat} {hb : sm_H} {U za : Int}
theorem me_beginsx {h : sm_H} {zu : Int} (hS : ab_Sh sx_sk h) (u0 : 0 ≤ zu) (u1 : zu < 60) (hg : gf_v h zu = -1 ∨ (0 ≤ gf_v h zu ∧ gf_v h zu < 70)) : me_E (d + 2) 73 0 [some (.inr (.inr 78)), some (.inl zu), none, none] [] h (fun w h' => h' = h ∧ ∃ z, w = some (.inl z) ∧ mi_in z ∧ b64 z = cb_C (cB h).2.1 (cv_p h zu)) := by
  have ou : mi_in zu := ⟨by omega, by omega⟩
  have og : mi_in (gf_v h zu) := ⟨by omega, by omega⟩
  refine mt_ybgA hS ou (fun h1 g1 g2 => ?_)
  have e0 := me_nil g2
  subst e0
  refine ⟨_, me_gformIn (d := d) hS u0 u1, fun w h2 oww hq => ?_⟩
  obtain ⟨rfl, rfl⟩ := hq
  have P1 : (cv_p h2 zu).1 = gf_v h2 zu := rfl
  have P2 : (cv_p h2 zu).2.1 = if mi_a h2 68 zu.toNat = 9 then 1 else 0 := rfl
  refine mt_ybgB hS ou og (fun c1 c2 c3 => ?_) (fun c1 c2 c3 c4 => ?_) (fun c1 c2 c3 c4 => ?_) (fun c1 c2 c3 c4 => ?_) (fun c1 c2 c3 c4 c5 => ?_) (fun c1 c2 c3 c4 c5 => ?_) (fun c1 c2 c3 c4 c5 => ?_) (fun c1 c2 c3 c4 c5 c6 => ?_) (fun c1 c2 c3 c4 c5 c6 => ⟨⟨⟨u0, u1⟩, c5, c6⟩, fun h3 g1 g2 => ⟨me_nil g2, _, rfl, mi_inT _, ?_⟩⟩) (fun c1 c2 c3 c4 c5 => ?_) (fun c1 c2 c3 c4 c5 c6 => ?_) (fun c1 c2 c3 c4 c5 c6 => ⟨⟨⟨u0, u1⟩, c5, c6⟩, fun h3 g1 g2 => ⟨me_nil g2, _, rfl, mi_inT _, ?_⟩⟩) (fun c1 h3 g1 g2 => ⟨me_nil g2, _, rfl, fm_in0, ?_⟩)
  · exfalso; omega
  · exfalso; omega
  · exfalso; omega
  · exfalso; omega
  · exfalso; omega
  · exfalso; omega
  · exfalso; omega
  · exfalso; omega
  · rw [b64_or, b64_0, or_0l]
    unfold cb_C
    rw [P1, P2, if_pos c5, if_neg c4, if_neg (fun q => q rfl)]
    rfl
  · exfalso; omega
  · exfalso; omega
  · rw [b64_or]
    unfold cb_C
    rw [P1, P2, if_pos c5, if_pos c4, if_pos (by decide)]
    have : b64 (Int32.ofInt 1 <<< (Int32.ofInt (gf_v h2 zu) &&& 31)).toInt = bitC (gf_v h2 zu) := by
      unfold b64 bitC
      rw [Int32.ofInt_toInt]
    rw [this]
    rfl
  · unfold cb_C
    rw [P1, if_neg (by omega)]
    rfl
theorem rb_exit {ze zb zh zp zn : Int} {zs : Int64} {h : sm_H} (a0 : 0 ≤ za) (a1 : za < 66) (hS : ab_Sh sx_sk h) (hF : ab_Fr ra_V hb h) (e01 : ze = 0 ∨ ze = 1) (ob : mi_in zb) (oh : mi_in zh) (h0 : 0 ≤ zh) (op : mi_in zp) (on : mi_in zn) : me_E (d + 4) 69 124 [some (.inr (.inr 78)), some (.inl za), some (.inl ze), some (.inr (.inl zs)), none, some (.inl zb), some (.inl zh), some (.inl zp), some (.inl zn)] [] h (rb_Q hb h za ze zb []) := by
  have oa : mi_in za := ⟨by omega, by omega⟩
  have oe : mi_in ze := ⟨by omega, by omega⟩
  refine mt_raH hS oa oe ob oh op on ?_ ?_ ?_ ?_ ?_ ?_
  · intro c1 c2; exfalso; omega
  · intro c1 c2 c3; exfalso; omega
  · intro c1 c2 c3
    refine ⟨by omega, fun h1 s1 s2 s3 s4 s5 s6 => ⟨rfl, s1, hF.trans (s6.wide (fun c hc => ab_swr_ok (by decide) hc)), ?_, fun i hi => ⟨by rw [s2, if_neg hi], by rw [s5, if_neg hi], by rw [s4, if_neg hi]⟩⟩⟩
    rw [s3, if_pos rfl, if_neg (fun q => q c1)]
  · intro c1 c2; exfalso; omega
  · intro c1 c2 c3; exfalso; omega
  · intro c1 c2 c3
    refine ⟨by omega, fun h1 s1 s2 s3 s4 s5 s6 => ⟨rfl, s1, hF.trans (s6.wide (fun c hc => ab_swr_ok (by decide) hc)), ?_, fun i hi => ⟨by rw [s2, if_neg hi], by rw [s5, if_neg hi], by rw [s4, if_neg hi]⟩⟩⟩
    rw [s3, if_pos rfl, if_pos c1]
    exact (or_0r (b64 zb)).symm
theorem rb_loop (hSb : ab_Sh sx_sk hb) (hU : cv_u hb U) (h01 : sp_01 70 (cX hb)) (hH : ∀ F : Nat, F < 70 → mi_a hb 82 F ≤ 1000) (a0 : 0 ≤ za) (a1 : za < 66) : ∀ (N : Nat) (ze zb zh zp zn : Int) (zs : Int64) (h : sm_H), (N : Int) = 60 - zn → 0 ≤ zn → (ze = 0 ∨ ze = 1) → mi_in zb → 0 ≤ zh → zh ≤ 1000 → (zp = -1 ∨ (0 ≤ zp ∧ zp < U)) → ab_Sh sx_sk h → ab_Fr ra_V hb h → me_E (d + 4) 69 26 [some (.inr (.inr 78)), some (.inl za), some (.inl ze), some (.inr (.inl zs)), none, some (.inl zb), some (.inl zh), some (.inl zp), some (.inl zn)] [] h (rb_Q hb h za ze zb (cv_row hb N zp)) := by
  have oa : mi_in za := ⟨by omega, by omega⟩
  have hU60 := hU.1
  intro N
  induction N with
  | zero =>
    intro ze zb zh zp zn zs h hN n0 e01 ob h0 h1 hp hS hF
    have oe : mi_in ze := ⟨by omega, by omega⟩
    have oh : mi_in zh := ⟨by omega, by omega⟩
    have op : mi_in zp := ⟨by omega, by omega⟩
    have on : mi_in zn := ⟨by omega, by omega⟩
    refine mt_raB hS oa oe ob oh op on ?_ ?_ ?_
    · intro c1 h2 g1 g2
      have e0 := me_nil g2
      subst e0
      exact rb_exit a0 a1 hS hF e01 ob oh h0 op on
    · intro c1 c2 h2 g1 g2
      have e0 := me_nil g2
      subst e0
      exact rb_exit a0 a1 hS hF e01 ob oh h0 op on
    · intro c1 c2; exfalso; omega
  | succ N ih =>
    intro ze zb zh zp zn zs h hN n0 e01 ob h0 h1 hp hS hF
    have oe : mi_in ze := ⟨by omega, by omega⟩
    have oh : mi_in zh := ⟨by omega, by omega⟩
    have op : mi_in zp := ⟨by omega, by omega⟩
    have on : mi_in zn := ⟨by omega, by omega⟩
    refine mt_raB hS oa oe ob oh op on ?_ ?_ ?_
    · intro c1 h2 g1 g2
      have e0 := me_nil g2
      subst e0
      have er : cv_row hb (N + 1) zp = [] := by rw [cv_row_c, if_pos c1]
      rw [er]
      exact rb_exit a0 a1 hS hF e01 ob oh h0 op on
    · intro c1 c2; exfalso; omega
    · intro c1 c2 h2 g1 g2
      have e0 := me_nil g2
      subst e0
      have p01 : 0 ≤ zp ∧ zp < U := hp.resolve_left c1
      obtain ⟨w1, w2, w3⟩ := hU.2 zp p01.1 p01.2
      have er : cv_row hb (N + 1) zp = zp :: cv_row hb N (mi_a hb 71 zp.toNat) := by rw [cv_row_c, if_neg c1]
      have eP : cv_p h2 = cv_p hb := cv_p_fr hF hSb rfl
      have eX : cX h2 = cX hb := cX_fr hF hSb rfl
      have eg : gf_v h2 zp = gf_v hb zp := gf_fr hF hSb rfl
      refine ⟨_, me_refreshPart (d := d) hS p01.1 (by omega) (by rw [eg]; exact w2) (by rw [me_a (k := 68) hF hSb rfl rfl, me_a (k := 69) hF hSb rfl rfl]; exact w3), fun w h3 oww hq => ?_⟩
      obtain ⟨rfl, s1, s2, s3, s4⟩ := hq
      rw [eP, eX] at s3 s4
      have F3 : ab_Fr ra_V hb h3 := hF.trans (s2.wide (fun c hc => ab_swr_ok (by decide) hc))
      have p89 : mi_a h3 89 zp.toNat = sp_v (cX hb) (cv_p hb zp) := by rw [s3, if_pos rfl]
      have p90 : mx_b h3 90 zp.toNat = sp_s (cX hb) (cv_p hb zp) := by rw [s4, if_pos rfl]
      have e71 : mi_a h3 71 zp.toNat = mi_a hb 71 zp.toNat := me_a (k := 71) F3 hSb rfl rfl
      have e72 : mi_a h3 72 zp.toNat = mi_a hb 72 zp.toNat := me_a (k := 72) F3 hSb rfl rfl
      have ez : (zp.toNat : Int) = zp := Int.toNat_of_nonneg p01.1
      /- behind this part -/
      have T99 : ∀ (ze' zb' : Int) (zs' : Int64), (ze' = 0 ∨ ze' = 1) → mi_in zb' → (ze' ≠ 0 ↔ (ze ≠ 0 ∧ sp_e (cX hb) (cv_p hb zp))) → b64 zb' = (if ze ≠ 0 then b64 zb ||| cb_C (cB hb).2.1 (cv_p hb zp) else b64 zb) → me_E (d + 4) 69 99 [some (.inr (.inr 78)), some (.inl za), some (.inl ze'), some (.inr (.inl zs')), none, some (.inl zb'), some (.inl zh), some (.inl zp), some (.inl zn)] [.inl (min 1000 (sp_h (cX hb) (cv_p hb zp))), .inl zh] h3 (rb_Q hb h2 za ze zb (cv_row hb (N + 1) zp)) := by
        intro ze' zb' zs' q1 q2 q3 q4
        have oe' : mi_in ze' := ⟨by omega, by omega⟩
        have oc : mi_in (min 1000 (sp_h (cX hb) (cv_p hb zp))) := by
          have : -2147483648 ≤ sp_h (cX hb) (cv_p hb zp) := by
            unfold sp_h
            split
            · decide
            · split
              · have x := (mi_inT (mx_a hb 82 (cv_p hb zp).1.toNat)).1
                have x : -2147483648 ≤ mi_a hb 82 (cv_p hb zp).1.toNat := x
                show -2147483648 ≤ mi_a hb 82 (cv_p hb zp).1.toNat + (if mi_a hb 68 zp.toNat = 9 then 1 else 0)
                split <;> omega
              · decide
          exact ⟨by omega, by omega⟩
        have go : ∀ zm, zm = max zh (min 1000 (sp_h (cX hb) (cv_p hb zp))) → me_E (d + 4) 69 26 [some (.inr (.inr 78)), some (.inl za), some (.inl ze'), some (.inr (.inl zs')), none, some (.inl zb'), some (.inl zm), some (.inl (mi_a h3 71 (Int.toNat zp))), some (.inl (zn + 1))] [] h3 (rb_Q hb h2 za ze zb (cv_row hb (N + 1) zp)) := by
          intro zm ezm
          rw [e71]
          refine (ih ze' zb' zm (mi_a hb 71 zp.toNat) (zn + 1) zs' h3 (by omega) (by omega) q1 q2 (by omega) (by omega) (by omega) s1 F3).imp (fun w h' hq => ?_)
          obtain ⟨r1, r2, r3, r4, r5⟩ := hq
          rw [er]
          refine ⟨r1, r2, r3, ?_, fun i hi => ⟨(r5 i hi).1.trans (me_a (k := 84) s2 hS rfl rfl), (r5 i hi).2.1.trans (me_b (k := 85) s2 hS rfl rfl), (r5 i hi).2.2.trans (me_a (k := 87) s2 hS rfl rfl)⟩⟩
          rw [r4, q4, List.map_cons]
          rw [sb_a_c]
          by_cases ce : ze ≠ 0
          · rw [if_pos ce, if_pos ce]
            by_cases cp : sp_e (cX hb) (cv_p hb zp)
            · rw [if_pos (show sp_e (cB hb) (cv_p hb zp) from cp), if_pos (q3.mpr ⟨ce, cp⟩), or_as]
            · rw [if_neg (show ¬ sp_e (cB hb) (cv_p hb zp) from cp), if_neg (fun q => cp (q3.mp q).2)]
          · rw [if_neg ce, if_neg ce, if_neg (fun q => ce (q3.mp q).1)]
        refine mt_raG s1 oa oe' q2 oh op on oc oh ?_ ?_ ?_ ?_ ?_ ?_
        · intro k1 k2; exfalso; omega
        · intro k1 k2 k3; exfalso; omega
        · intro k1 k2 k3
          refine ⟨by omega, fun h4 g1 g2 => ?_⟩
          have e0 := me_nil g2
          subst e0
          exact go _ (by omega)
        · intro k1 k2; exfalso; omega
        · intro k1 k2 k3; exfalso; omega
        · intro k1 k2 k3
          refine ⟨by omega, fun h4 g1 g2 => ?_⟩
          have e0 := me_nil g2
          subst e0
          exact go _ (by omega)
      have HC : ∀ h4, h4 = h3 → me_E (d + 3) 75 0 [some (.inr (.inr 78)), some (.inl zp), none, none] [] h4 (fun w h' => h' = h4 ∧ w = some (.inl (min 1000 (sp_h (cX hb) (cv_p hb zp))))) := by
        intro h4 e4
        subst e4
        have := me_heightc (d := d) (zu := zp) s1 p01.1 (by omega) (by rw [gf_fr F3 hSb rfl]; exact w2) (fun F hF' => by rw [me_a (k := 82) F3 hSb rfl rfl]; exact hH F hF')
        rw [cv_p_fr F3 hSb rfl, cX_fr F3 hSb rfl] at this
        exact this
      have ie : sp_e (cX hb) (cv_p hb zp) ↔ (mi_a h3 72 zp.toNat ≠ 0 ∨ mi_a h3 89 zp.toNat = 1) := by
        unfold sp_e
        rw [e72, p89]
        have v01 := cv_v01 (zu := zp) h01 w2
        constructor
        · rintro (q | q)
          · refine Or.inl (fun x => q ?_)
            show (if mi_a hb 72 zp.toNat = 0 then (0 : Int) else if mi_a hb 72 zp.toNat = 5 then 1 else 2) = 0
            rw [if_pos x]
          · exact Or.inr (v01.resolve_left q)
        · rintro (q | q)
          · refine Or.inl ?_
            show (if mi_a hb 72 zp.toNat = 0 then (0 : Int) else if mi_a hb 72 zp.toNat = 5 then 1 else 2) ≠ 0
            rw [if_neg q]
            split <;> decide
          · exact Or.inr (by rw [q]; decide)
      have T72 : ∀ (zb' : Int) (zs' : Int64), mi_in zb' → b64 zb' = (if ze ≠ 0 then b64 zb ||| cb_C (cB hb).2.1 (cv_p hb zp) else b64 zb) → me_E (d + 4) 69 72 [some (.inr (.inr 78)), some (.inl za), some (.inl ze), some (.inr (.inl zs')), none, some (.inl zb'), some (.inl zh), some (.inl zp), some (.inl zn)] [] h3 (rb_Q hb h2 za ze zb (cv_row hb (N + 1) zp)) := by
        intro zb' zs' q2 q4
        refine mt_raE s1 oa oe q2 oh op on ?_ ?_
        · intro k1 h4 g1 g2
          have e0 := me_nil g2
          refine ⟨_, HC h4 e0, fun w h5 oww hq => ?_⟩
          obtain ⟨rfl, rfl⟩ := hq
          rw [e0]
          exact T99 0 zb' zs' (Or.inl rfl) q2 ⟨fun q => absurd rfl q, fun q => absurd k1 q.1⟩ q4
        · intro k1 h4 g1 g2
          have e0 := me_nil g2
          subst e0
          refine ⟨_, me_mayBePassed (d := d + 1) s1 p01.1 (by omega), fun w h5 oww hq => ?_⟩
          obtain ⟨rfl, z, rfl, z01, hz⟩ := hq
          refine mt_raF s1 oa oe q2 oh op on ⟨by omega, by omega⟩ ?_ ?_
          · intro k2 h6 g1 g2
            have e0 := me_nil g2
            refine ⟨_, HC h6 e0, fun w h7 oww hq => ?_⟩
            obtain ⟨rfl, rfl⟩ := hq
            rw [e0]
            exact T99 0 zb' zs' (Or.inl rfl) q2 ⟨fun q => absurd rfl q, fun q => by have := hz.mpr (ie.mp q.2); omega⟩ q4
          · intro k2 h6 g1 g2
            have e0 := me_nil g2
            refine ⟨_, HC h6 e0, fun w h7 oww hq => ?_⟩
            obtain ⟨rfl, rfl⟩ := hq
            rw [e0]
            exact T99 1 zb' zs' (Or.inr rfl) q2 ⟨fun _ => ⟨k1, ie.mpr (hz.mp (by omega))⟩, fun _ => by decide⟩ q4
      refine mt_raC s1 oa oe ob oh op on ?_ ?_ ?_ ?_
      · intro k1 h4 g1 g2
        have e0 := me_nil g2
        subst e0
        exact T72 zb zs ob (by rw [if_neg (fun q => q k1)])
      · intro k1 k2; exfalso; omega
      · intro k1 k2 k3; exfalso; omega
      · intro k1 k2 k3
        refine ⟨by omega, fun h4 g1 g2 => ?_⟩
        have e0 := me_nil g2
        subst e0
        refine ⟨_, me_beginsx (d := d + 1) (zu := zp) s1 p01.1 (by omega) (by rw [gf_fr F3 hSb rfl]; exact w2), fun w h5 oww hq => ?_⟩
        obtain ⟨rfl, z, rfl, oz, ebz⟩ := hq
        rw [cB_fr F3 hSb rfl, cv_p_fr F3 hSb rfl] at ebz
        refine mt_raD s1 oa oe ob oh op on oz ob (fun h6 g1 g2 => ?_)
        have e0 := me_nil g2
        subst e0
        refine T72 _ _ (mi_inT _) ?_
        rw [if_pos k1, b64_or, ebz]
theorem me_refreshAltB {h : sm_H} (hSb : ab_Sh sx_sk hb) (hU : cv_u hb U) (h01 : sp_01 70 (cX hb)) (hH : ∀ F : Nat, F < 70 → mi_a hb 82 F ≤ 1000) (a0 : 0 ≤ za) (a1 : za < 66) (hp : mi_a hb 65 za.toNat = -1 ∨ (0 ≤ mi_a hb 65 za.toNat ∧ mi_a hb 65 za.toNat < U)) (hS : ab_Sh sx_sk h) (hF : ab_Fr ra_V hb h) : me_E (d + 4) 69 0 [some (.inr (.inr 78)), some (.inl za), none, none, none, none, none, none, none] [] h (rb_Q hb h za 1 0 (cv_row hb 60 (mi_a hb 65 za.toNat))) := by
  refine mt_raA hS ⟨by omega, by omega⟩ ?_ ?_ ?_
  · intro c1; exfalso; omega
  · intro c1 c2; exfalso; omega
  · intro c1 c2
    refine ⟨by omega, fun h1 g1 g2 => ?_⟩
    have e0 := me_nil g2
    subst e0
    rw [me_a (k := 65) hF hSb rfl rfl]
    exact rb_loop hSb hU h01 hH a0 a1 60 1 0 0 _ 0 0 h1 (by decide) (by decide) (Or.inr rfl) fm_in0 (by decide) (by decide) hp hS hF
end RBL
/-! the class's Sets: a form's begins, and its alternatives -/
theorem sX_v (v h h' : Nat → Int) (t t' : Nat → Int64) : ∀ us, sa_v (v, t, h) us = sa_v (v, t', h') us := by
  intro us
  induction us with
  | nil => rfl
  | cons p r ih =>
    rw [sa_v_c, sa_v_c, ih]
    rfl
theorem sX_h (v v' h : Nat → Int) (t t' : Nat → Int64) : ∀ us, sa_h (v, t, h) us = sa_h (v', t', h) us := by
  intro us
  induction us with
  | nil => rfl
  | cons p r ih =>
    rw [sa_h_c, sa_h_c, ih]
    rfl
theorem sX_fv (v h h' : Nat → Int) (t t' : Nat → Int64) : ∀ as, sf_v (v, t, h) as = sf_v (v, t', h') as := by
  intro as
  induction as with
  | nil => rfl
  | cons a r ih => rw [sf_v_c, sf_v_c, ih, sX_v v h h' t t']
theorem sX_fh (v v' h : Nat → Int) (t t' : Nat → Int64) : ∀ as, sf_h (v, t, h) as = sf_h (v', t', h) as := by
  intro as
  induction as with
  | nil => rfl
  | cons a r ih => rw [sf_h_c, sf_h_c, ih, sX_h v v' h t t']
theorem sb_f_app (X : sp_X) : ∀ (as bs : List (List sp_P)), sb_f X (as ++ bs) = sb_f X as ||| sb_f X bs := by
  intro as bs
  induction as with
  | nil => exact (or_0l _).symm
  | cons a r ih => rw [List.cons_append, sb_f_c, sb_f_c, ih, or_as]
/-- an alternative's own void and starts -/
def at_ok (hb : sm_H) (X : sp_X) (h : sm_H) (a : Nat) : Prop := mi_a h 84 a = sa_v X ((cv_l hb a).map (cv_p hb)) ∧ mx_b h 85 a = sa_s X ((cv_l hb a).map (cv_p hb)) ∧ mi_a h 87 a = min 1000 (sa_h X ((cv_l hb a).map (cv_p hb)))
def ro_Q (hb : sm_H) (zf : Int) (w : Option mi_V) (h' : sm_H) : Prop := w = none ∧ ab_Sh sx_sk h' ∧ ab_Fr rm_W hb h' ∧ cB h' = su (bG (GC hb)) zf.toNat (cB hb) ∧ (mi_f h' 9999 = 0 → mi_f hb 9999 = 0 ∧ cB h' = cB hb) ∧
  (∀ a ∈ cv_as hb (cv_n hb zf.toNat) (mi_a hb 63 zf.toNat), at_ok hb (cX hb) h' a.toNat) ∧ ∀ i : Nat, (∀ a ∈ cv_as hb (cv_n hb zf.toNat) (mi_a hb 63 zf.toNat), a.toNat ≠ i) → at_same hb h' i
section ROF
variable {d : Nat} {hb : sm_H} {U zf : Int}
/-- the loop is through: as is what was looked at -/
theorem ro_exit {as : List Int} {ze zb zh za zn : Int} {zs : Int64} {h : sm_H} (hSb : ab_Sh sx_sk hb) (f0 : 0 ≤ zf) (f1 : zf < 70) (hS : ab_Sh sx_sk h) (hF : ab_Fr ra_V hb h) (eas : as = cv_as hb (cv_n hb zf.toNat) (mi_a hb 63 zf.toNat)) (ev : ze = sf_v (cX hb) (as.map (fun a => (cv_l hb a).map (cv_p hb)))) (eb : b64 zb = sb_f (cB hb) (as.map (fun a => (cv_l hb a).map (cv_p hb)))) (eh : zh = sf_h (cX hb) (as.map (fun a => (cv_l hb a).map (cv_p hb)))) (p1 : ∀ a ∈ as, at_ok hb (cX hb) h a.toNat) (p2 : ∀ i : Nat, (∀ a ∈ as, a.toNat ≠ i) → at_same hb h i) (oe : mi_in ze) (ob : mi_in zb) (oh : mi_in zh) (oa : mi_in za) (on : mi_in zn) : me_E (d + 5) 68 131 [some (.inr (.inr 78)), some (.inl zf), some (.inl ze), some (.inr (.inl zs)), none, some (.inl zb), some (.inl zh), some (.inl za), some (.inl zn)] [] h (ro_Q hb zf) := by
  have of : mi_in zf := ⟨by omega, by omega⟩
  have eG : as.map (fun a => (cv_l hb a).map (cv_p hb)) = GC hb zf.toNat := by rw [eas]; rfl
  rw [eG] at ev eb eh
  obtain ⟨G1, G2, G3⟩ := bG_f (X := cB hb) (GC hb zf.toNat)
  have ev : ze = sf_v (cB hb) (bG (GC hb) zf.toNat) := ev.trans ((sX_fv _ _ _ _ _ _).trans G1.symm)
  have eh : zh = sf_h (cB hb) (bG (GC hb) zf.toNat) := eh.trans ((sX_fh _ _ _ _ _ _).trans G3.symm)
  have eb : b64 zb = sf_s (cB hb) (bG (GC hb) zf.toNat) := eb.trans G2.symm
  have e79 : mi_a h 79 zf.toNat = mi_a hb 79 zf.toNat := me_a (k := 79) hF hSb rfl rfl
  have e82 : mi_a h 82 zf.toNat = mi_a hb 82 zf.toNat := me_a (k := 82) hF hSb rfl rfl
  have e83 : mi_a h 83 zf.toNat = mi_a hb 83 zf.toNat := me_a (k := 83) hF hSb rfl rfl
  have e99 : mi_f h 9999 = mi_f hb 9999 := me_f (c := 9999) hF hSb rfl rfl
  have go : ∀ h1, ab_Sh sx_sk h1 → ab_Fr [(9999, 10000)] h h1 → (mi_f h1 9999 = 0 → mi_f h 9999 = 0 ∧ ze = mi_a h 79 zf.toNat ∧ zb = mi_a h 83 zf.toNat ∧ zh = mi_a h 82 zf.toNat) → me_E (d + 5) 68 198 [some (.inr (.inr 78)), some (.inl zf), some (.inl ze), some (.inr (.inl zs)), none, some (.inl zb), some (.inl zh), some (.inl za), some (.inl zn)] [] h1 (ro_Q hb zf) := by
    intro h1 s1 s2 s3
    refine mt_rmE s1 of oe ob oh oa on ?_ ?_ ?_
    · intro c1; exfalso; omega
    · intro c1 c2; exfalso; omega
    · intro c1 c2
      refine ⟨by omega, fun h2 t1 t2 t3 t4 t5 t6 => ?_⟩
      have F1 : ab_Fr rm_W hb h1 := (hF.wide (fun c hc => ab_swr_ok (by decide) hc)).trans (s2.wide (fun c hc => ab_swr_ok (by decide) hc))
      have F2 : ab_Fr rm_W hb h2 := F1.trans (t6.wide (fun c hc => ab_swr_ok (by decide) hc))
      have a79 : ∀ i, mi_a h1 79 i = mi_a hb 79 i := fun i => (me_a (k := 79) s2 hS rfl rfl).trans (me_a (k := 79) hF hSb rfl rfl)
      have a82 : ∀ i, mi_a h1 82 i = mi_a hb 82 i := fun i => (me_a (k := 82) s2 hS rfl rfl).trans (me_a (k := 82) hF hSb rfl rfl)
      have a83 : ∀ i, mi_a h1 83 i = mi_a hb 83 i := fun i => (me_a (k := 83) s2 hS rfl rfl).trans (me_a (k := 83) hF hSb rfl rfl)
      have a84 : ∀ i, mi_a h2 84 i = mi_a h 84 i := fun i => (me_a (k := 84) t6 s1 rfl rfl).trans (me_a (k := 84) s2 hS rfl rfl)
      have a85 : ∀ i, mx_b h2 85 i = mx_b h 85 i := fun i => (me_b (k := 85) t6 s1 rfl rfl).trans (me_b (k := 85) s2 hS rfl rfl)
      have a87 : ∀ i, mi_a h2 87 i = mi_a h 87 i := fun i => (me_a (k := 87) t6 s1 rfl rfl).trans (me_a (k := 87) s2 hS rfl rfl)
      have eX : cB h2 = su (bG (GC hb)) zf.toNat (cB hb) := by
        unfold su
        refine Prod.ext (funext fun i => ?_) (Prod.ext (funext fun i => ?_) (funext fun i => ?_))
        · show mi_a h2 79 i = if i = zf.toNat then _ else mi_a hb 79 i
          rw [t2, a79, ev]
        · show b64 (mi_a h2 83 i) = if i = zf.toNat then _ else b64 (mi_a hb 83 i)
          rw [t4, a83]
          by_cases ci : i = zf.toNat
          · rw [if_pos ci, if_pos ci, eb]
          · rw [if_neg ci, if_neg ci]
        · show mi_a h2 82 i = if i = zf.toNat then _ else mi_a hb 82 i
          rw [t3, a82, eh]
      refine ⟨rfl, t1, F2, eX, fun q => ?_, fun a ha => ?_, fun i hi => ?_⟩
      · have q1 : mi_f h1 9999 = 0 := (me_f (c := 9999) t6 s1 rfl rfl).symm.trans q
        obtain ⟨x1, x2, x3, x4⟩ := s3 q1
        refine ⟨e99.symm.trans x1, ?_⟩
        rw [e79] at x2
        rw [e83] at x3
        rw [e82] at x4
        unfold cB
        refine Prod.ext (funext fun i => ?_) (Prod.ext (funext fun i => ?_) (funext fun i => ?_))
        · show mi_a h2 79 i = mi_a hb 79 i
          rw [t2, a79]
          by_cases ci : i = zf.toNat
          · rw [if_pos ci, ci]; exact x2
          · rw [if_neg ci]
        · show b64 (mi_a h2 83 i) = b64 (mi_a hb 83 i)
          rw [t4, a83]
          by_cases ci : i = zf.toNat
          · rw [if_pos ci, ci, x3]
          · rw [if_neg ci]
        · show mi_a h2 82 i = mi_a hb 82 i
          rw [t3, a82]
          by_cases ci : i = zf.toNat
          · rw [if_pos ci, ci]; exact x4
          · rw [if_neg ci]
      · rw [← eas] at ha
        obtain ⟨x1, x2, x3⟩ := p1 a ha
        exact ⟨(a84 _).trans x1, (a85 _).trans x2, (a87 _).trans x3⟩
      · rw [← eas] at hi
        obtain ⟨x1, x2, x3⟩ := p2 i hi
        exact ⟨(a84 _).trans x1, (a85 _).trans x2, (a87 _).trans x3⟩
  refine mt_rmD hS of oe ob oh oa on ?_ ?_ ?_ ?_ ?_ ?_ ?_ ?_ ?_ ?_ ?_ ?_ ?_ ?_ ?_ ?_
  · intro b k1 h1 s1 s2 s3
    exact go h1 s1 s3 (fun q => by omega)
  · intro b k1 k2; exfalso; omega
  · intro b k1 k2; exfalso; omega
  · intro b k1 k2; exfalso; omega
  · intro b k1 k2; exfalso; omega
  · intro b k1 k2; exfalso; omega
  · intro b k1 k2 k3; exfalso; omega
  · intro b k1 k2 k3; exfalso; omega
  · intro b k1 k2 k3; exfalso; omega
  · intro b k1 k2 k3; exfalso; omega
  · intro b k1 k2 k3; exfalso; omega
  · intro b k1 k2 k3 k4
    exact ⟨by omega, fun h1 s1 s2 s3 => go h1 s1 s3 (fun q => by omega)⟩
  · intro b k1 k2 k3 k4 k5
    exact ⟨by omega, fun h1 s1 s2 s3 => go h1 s1 s3 (fun q => by omega)⟩
  · intro b k1 k2 k3 k4 k5 k6
    exact ⟨by omega, fun h1 s1 s2 s3 => go h1 s1 s3 (fun q => by omega)⟩
  · intro b k1 k2 k3 k4 k5 k6 k7
    exact ⟨by omega, fun h1 s1 s2 s3 => go h1 s1 s3 (fun q => ⟨k1, k4, k6, k7⟩)⟩
  · intro b k1 k2 k3 k4 k5 k6 k7
    exact ⟨by omega, fun h1 s1 s2 s3 => go h1 s1 s3 (fun q => by omega)⟩
theorem ro_loop (hSb : ab_Sh sx_sk hb) (hU : cv_u hb U) (h01 : sp_01 70 (cX hb)) (hH : ∀ F : Nat, F < 70 → mi_a hb 82 F ≤ 1000) (f0 : 0 ≤ zf) (f1 : zf < 70) : ∀ (m : Nat) (as : List Int) (ze zb zh za zn : Int) (zs : Int64) (h : sm_H), (m : Int) + zn = cv_n hb zf.toNat → 0 ≤ zn → cv_al hb U m za → as ++ cv_as hb m za = cv_as hb (cv_n hb zf.toNat) (mi_a hb 63 zf.toNat) → mi_in zb → mi_in za → ze = sf_v (cX hb) (as.map (fun a => (cv_l hb a).map (cv_p hb))) → b64 zb = sb_f (cB hb) (as.map (fun a => (cv_l hb a).map (cv_p hb))) → zh = sf_h (cX hb) (as.map (fun a => (cv_l hb a).map (cv_p hb))) → 0 ≤ zh → (∀ a ∈ as, at_ok hb (cX hb) h a.toNat) → (∀ i : Nat, (∀ a ∈ as, a.toNat ≠ i) → at_same hb h i) → ab_Sh sx_sk h → ab_Fr ra_V hb h → me_E (d + 5) 68 28 [some (.inr (.inr 78)), some (.inl zf), some (.inl ze), some (.inr (.inl zs)), none, some (.inl zb), some (.inl zh), some (.inl za), some (.inl zn)] [] h (ro_Q hb zf) := by
  have of : mi_in zf := ⟨by omega, by omega⟩
  intro m
  induction m with
  | zero =>
    intro as ze zb zh za zn zs h hN n0 hal eas ob oa ev eb eh h0 p1 p2 hS hF
    have e01 := sf_v_01 (cX hb) (as.map (fun a => (cv_l hb a).map (cv_p hb)))
    rw [← ev] at e01
    have h1000 := sf_h_1000 (cX hb) (as.map (fun a => (cv_l hb a).map (cv_p hb)))
    rw [← eh] at h1000
    have oe : mi_in ze := ⟨by omega, by omega⟩
    have oh : mi_in zh := ⟨by omega, by omega⟩
    have cn : cv_n hb zf.toNat ≤ 6 := by unfold cv_n; omega
    have on : mi_in zn := ⟨by omega, by omega⟩
    have e64 : mi_a h 64 zf.toNat = mi_a hb 64 zf.toNat := me_a (k := 64) hF hSb rfl rfl
    have eas : as = cv_as hb (cv_n hb zf.toNat) (mi_a hb 63 zf.toNat) := by rw [← eas]; exact (List.append_nil as).symm
    refine mt_rmB hS of oe ob oh oa on ?_ ?_ ?_ ?_ ?_ ?_ ?_ ?_ ?_
    · intro c1; exfalso; omega
    · intro c1; exfalso; omega
    · intro c1; exfalso; omega
    · intro c1 c2; exfalso; omega
    · intro c1 c2; exfalso; omega
    · intro c1 c2; exfalso; omega
    · intro c1 c2 c3
      refine ⟨by omega, fun h1 g1 g2 => ?_⟩
      have e0 := me_nil g2
      subst e0
      exact ro_exit hSb f0 f1 hS hF eas ev eb eh p1 p2 oe ob oh oa on
    · intro c1 c2 c3 c4
      refine ⟨by omega, fun h1 g1 g2 => ?_⟩
      have e0 := me_nil g2
      subst e0
      exact ro_exit hSb f0 f1 hS hF eas ev eb eh p1 p2 oe ob oh oa on
    · intro c1 c2 c3 c4
      exfalso
      rw [e64] at c3
      unfold cv_n at hN
      omega
  | succ m ih =>
    intro as ze zb zh za zn zs h hN n0 hal eas ob oa ev eb eh h0 p1 p2 hS hF
    obtain ⟨⟨a0, a1⟩, hp, hal'⟩ := hal
    have e01 := sf_v_01 (cX hb) (as.map (fun a => (cv_l hb a).map (cv_p hb)))
    rw [← ev] at e01
    have h1000 := sf_h_1000 (cX hb) (as.map (fun a => (cv_l hb a).map (cv_p hb)))
    rw [← eh] at h1000
    have oe : mi_in ze := ⟨by omega, by omega⟩
    have oh : mi_in zh := ⟨by omega, by omega⟩
    have cn : cv_n hb zf.toNat ≤ 6 := by unfold cv_n; omega
    have on : mi_in zn := ⟨by omega, by omega⟩
    have e64 : mi_a h 64 zf.toNat = mi_a hb 64 zf.toNat := me_a (k := 64) hF hSb rfl rfl
    have lt : zn < mi_a hb 64 zf.toNat := by unfold cv_n at hN; omega
    have eas' : (as ++ [za]) ++ cv_as hb m (mi_a hb 66 za.toNat) = cv_as hb (cv_n hb zf.toNat) (mi_a hb 63 zf.toNat) := by
      rw [← eas, List.append_assoc]
      all_goals rfl
    refine mt_rmB hS of oe ob oh oa on ?_ ?_ ?_ ?_ ?_ ?_ ?_ ?_ ?_
    · intro c1; exfalso; omega
    · intro c1; exfalso; omega
    · intro c1; exfalso; omega
    · intro c1 c2; exfalso; omega
    · intro c1 c2; exfalso; omega
    · intro c1 c2; exfalso; omega
    · intro c1 c2 c3
      exfalso
      rw [e64] at c3
      omega
    · intro c1 c2 c3 c4; exfalso; omega
    · intro c1 c2 c3 c4
      refine ⟨by omega, fun h1 g1 g2 => ?_⟩
      have e0 := me_nil g2
      subst e0
      refine ⟨_, (me_refreshAlternative (d := d) hSb hU h01 hH a0 a1 hp hS hF).and (me_refreshAltB (d := d) hSb hU h01 hH a0 a1 hp hS hF), fun w h2 oww hq => ?_⟩
      obtain ⟨⟨rfl, s1, s2, s3, s4, s5, -, -⟩, -, -, -, v1, v2⟩ := hq
      rw [if_pos (by decide)] at s3 s4 v1
      have el : cv_row hb 60 (mi_a hb 65 za.toNat) = cv_l hb za := rfl
      rw [el] at s3 s4 s5 v1
      rw [b64_0, or_0l] at v1
      have ezn : ((za.toNat : Nat) : Int) = za := Int.toNat_of_nonneg a0
      have z0 : (0 : Int64) ||| sa_s (cX hb) ((cv_l hb za).map (cv_p hb)) = sa_s (cX hb) ((cv_l hb za).map (cv_p hb)) := tb_ext (fun b => by rw [tb_or, tb_0, Bool.false_or])
      rw [z0] at s4
      have sh0 := sa_h_0 (cX hb) ((cv_l hb za).map (cv_p hb))
      have s5 : mi_a h2 87 za.toNat = min 1000 (sa_h (cX hb) ((cv_l hb za).map (cv_p hb))) := by omega
      have a01 := sa_v_01 (cX hb) ((cv_l hb za).map (cv_p hb))
      obtain ⟨A1, A2, A3⟩ := sf_app (cX hb) (as.map (fun a => (cv_l hb a).map (cv_p hb))) [(cv_l hb za).map (cv_p hb)]
      have em : (as ++ [za]).map (fun a => (cv_l hb a).map (cv_p hb)) = as.map (fun a => (cv_l hb a).map (cv_p hb)) ++ [(cv_l hb za).map (cv_p hb)] := by rw [List.map_append]; rfl
      have e66 : mi_a h2 66 za.toNat = mi_a hb 66 za.toNat := me_a (k := 66) s2 hSb rfl rfl
      have nx : ∀ zm, zm = min zh (mi_a h2 87 za.toNat) → me_E (d + 5) 68 28 [some (.inr (.inr 78)), some (.inl zf), some (.inl ((Int32.ofInt ze ||| Int32.ofInt (mi_a h2 84 (Int.toNat za))).toInt)), some (.inr (.inl (zs ||| mx_b h2 85 (Int.toNat za)))), none, some (.inl ((Int32.ofInt zb ||| Int32.ofInt (mi_a h2 86 (Int.toNat za))).toInt)), some (.inl zm), some (.inl (mi_a h2 66 (Int.toNat za))), some (.inl (zn + 1))] [] h2 (ro_Q hb zf) := by
        intro zm ezm
        rw [e66]
        refine ih (as ++ [za]) _ _ zm _ (zn + 1) _ h2 (by omega) (by omega) hal' eas' (mi_inT _) (mi_inT _) ?_ ?_ ?_ (by omega) (fun u hu => ?_) (fun u hu => ?_) s1 s2
        · rw [em, A1, s3, or_01 e01 a01, ← ev]
          by_cases c : ze ≠ 0
          · rw [if_pos c, if_pos (Or.inl c)]
          · rw [if_neg c]
            rw [sf_v_c, sf_v_n]
            by_cases c2 : sa_v (cX hb) ((cv_l hb za).map (cv_p hb)) ≠ 0
            · rw [if_pos c2, if_pos (Or.inr c2)]
            · rw [if_neg c2, if_neg (fun q => q.elim c c2)]
        · rw [em, sb_f_app, b64_or, v1, eb]
          congr 1
          exact (or_0r _).symm
        · rw [em, A3, ← eh, ezm, s5]
          rw [sf_h_c, sf_h_n]
          omega
        · by_cases cm : u.toNat = za.toNat
          · rw [cm]
            unfold at_ok
            rw [ezn]
            exact ⟨s3, s4, s5⟩
          · rcases List.mem_append.mp hu with hu | hu
            · obtain ⟨x1, x2, x3⟩ := v2 u.toNat cm
              obtain ⟨y1, y2, y3⟩ := p1 u hu
              exact ⟨x1.trans y1, x2.trans y2, x3.trans y3⟩
            · rw [List.mem_singleton.mp hu] at cm
              exact absurd rfl cm
        · obtain ⟨x1, x2, x3⟩ := v2 u (fun q => hu za (List.mem_append.mpr (Or.inr (List.mem_singleton.mpr rfl))) q.symm)
          obtain ⟨y1, y2, y3⟩ := p2 u (fun a ha => hu a (List.mem_append.mpr (Or.inl ha)))
          exact ⟨x1.trans y1, x2.trans y2, x3.trans y3⟩
      refine mt_rmC s1 of oe ob oh oa on ?_ ?_ ?_ ?_ ?_ ?_
      · intro k1; exfalso; omega
      · intro k1; exfalso; omega
      · intro k1 k2; exfalso; omega
      · intro k1 k2; exfalso; omega
      · intro k1 k2 k3
        refine ⟨by omega, fun h3 g1 g2 => ?_⟩
        have e0 := me_nil g2
        subst e0
        exact nx _ (by omega)
      · intro k1 k2 k3
        refine ⟨by omega, fun h3 g1 g2 => ?_⟩
        have e0 := me_nil g2
        subst e0
        exact nx _ (by omega)
theorem me_refreshFormB (hSb : ab_Sh sx_sk hb) (hU : cv_u hb U) (h01 : sp_01 70 (cX hb)) (hH : ∀ F : Nat, F < 70 → mi_a hb 82 F ≤ 1000) (f0 : 0 ≤ zf) (f1 : zf < 70) (hal : cv_al hb U (cv_n hb zf.toNat) (mi_a hb 63 zf.toNat)) : me_E (d + 5) 68 0 [some (.inr (.inr 78)), some (.inl zf), none, none, none, none, none, none, none] [] hb (ro_Q hb zf) := by
  refine mt_rmA hSb ⟨by omega, by omega⟩ ?_ ?_ ?_
  · intro c1; exfalso; omega
  · intro c1 c2; exfalso; omega
  · intro c1 c2
    refine ⟨by omega, fun h1 g1 g2 => ?_⟩
    have e0 := me_nil g2
    subst e0
    exact ro_loop hSb hU h01 hH f0 f1 _ [] 0 0 1000 _ 0 _ h1 (by omega) (by decide) hal rfl fm_in0 (mi_inT _) rfl rfl rfl (by decide) (fun a ha => by cases ha) (fun u _ => ⟨rfl, rfl, rfl⟩) hSb ab_Fr.refl
end ROF
/-! the class's Sets: starts, begins and alternatives are worked out -/
theorem at_ok_eq {X Y : sp_X} {hb h : sm_H} {a n : Nat} (e : sp_eq n X Y) (hu : sg_ok n ((cv_l hb a).map (cv_p hb)) ∧ sg_us ((cv_l hb a).map (cv_p hb))) (k : at_ok hb X h a) : at_ok hb Y h a := by
  have e3 := sE_ah (e.h 1000) _ hu.1 hu.2
  have k3 := k.2.2
  refine ⟨k.1.trans (sE_av e.v _ hu.1), k.2.1.trans (tb_ext (fun b => sE_as (e.s b) _ hu.1)), by omega⟩
def at_bt (hb : sm_H) (X Y : sp_X) (h : sm_H) (a : Nat) : Prop := ∃ Z, sp_le 70 X Z ∧ sp_le 70 Z Y ∧ sp_01 70 Z ∧ at_ok hb Z h a
def cv_A (h : sm_H) (F : Nat) : List Int := cv_as h (cv_n h F) (mi_a h 63 F)
def sB_Q (hb : sm_H) (w : Option mi_V) (h' : sm_H) : Prop := ss_Q hb w h' ∧ (∃ j, sp_eq 70 (cX h') (sps_k (GC hb) 70 j) ∧ ∀ F : Nat, F < 70 → ∀ a ∈ cv_A hb F, at_ok hb (sps_k (GC hb) 70 j) h' a.toNat) ∧ ∃ j, sp_eq 70 (cB h') (sps_k (bG (GC hb)) 70 j) ∧ sp_fix 70 (bG (GC hb)) (sps_k (bG (GC hb)) 70 j)
section SBS
variable {d : Nat} {hb : sm_H} {U : Int}
def sB_I (hb : sm_H) (k : Nat) (m : Nat) (h : sm_H) : Prop := ss_I hb k m h ∧ (sp_eq 70 (sps (bG (GC hb)) m (cB h)) (sps_k (bG (GC hb)) 70 (k + 1)) ∧ sp_up 70 (bG (GC hb)) (cB h) ∧ (mi_f h 9999 = 0 → sp_eq 70 (cB h) (sps_k (bG (GC hb)) 70 k))) ∧ ∀ F : Nat, m ≤ F → F < 70 → ∀ a ∈ cv_A hb F, at_bt hb (sps_k (GC hb) 70 k) (sps_k (GC hb) 70 (k + 1)) h a.toNat
theorem sB_step {k m : Nat} {h : sm_H} (hSb : ab_Sh sx_sk hb) (hF : cv_F hb U) (hm : m < 70) (hI : sB_I hb k (m + 1) h) : me_E (d + 5) 68 0 [some (.inr (.inr 78)), some (.inl (m : Int)), none, none, none, none, none, none, none] [] h (fun w h' => w = none ∧ sB_I hb k m h') := by
  obtain ⟨I0, ⟨b1, b2, b3⟩, b4⟩ := hI
  have I0' := I0
  obtain ⟨i1, i2, i3, i4, i5, i6, i7, i8, i9⟩ := I0'
  have e : cv_eq hb h := cv_eq_fr i2 hSb rfl
  have hF' := e.F hF
  have hG := cv_OK hF
  have em : ((m : Int)).toNat = m := rfl
  refine ((ss_step (d := d) hSb hF hm I0).and (me_refreshFormB (d := d) (zf := (m : Int)) i1 hF'.1 i5 i7 (by omega) (by omega) (hF'.2 m hm))).imp (fun w h' hq => ?_)
  obtain ⟨⟨r1, I1⟩, -, -, -, r4, r5, r6, r7⟩ := hq
  rw [em, e.g] at r4
  have eA : cv_as h (cv_n h m) (mi_a h 63 m) = cv_A hb m := by
    unfold cv_A
    rw [e.n, e.as, e.1]
  rw [em, eA] at r6 r7
  have e1 : sps (bG (GC hb)) m (cB h') = sps (bG (GC hb)) (m + 1) (cB h) := by rw [r4]; rfl
  have lN : sp_le 70 (cX h) (sps_k (GC hb) 70 (k + 1)) := sp_le_tr (sps_up hG (m + 1) _ (by omega) i6).1 i3.le
  refine ⟨r1, I1, ⟨by rw [e1]; exact b1, by rw [r4]; exact su_up (bG_OK hG) (by omega) b2, fun q => ?_⟩, fun F f0 f1 a ha => ?_⟩
  · obtain ⟨q1, q2⟩ := r5 q
    rw [q2]
    exact b3 q1
  · by_cases c : ∃ x ∈ cv_A hb m, x.toNat = a.toNat
    · obtain ⟨x, hx, ex⟩ := c
      have k1 := r6 x hx
      rw [ex] at k1
      unfold at_ok at k1
      rw [e.p, e.l] at k1
      exact ⟨cX h, i4, lN, i5, k1⟩
    · have nF : F ≠ m := fun q => c ⟨a, by rw [← q]; exact ha, rfl⟩
      obtain ⟨Z, z1, z2, z3, z4⟩ := b4 F (by omega) f1 a ha
      obtain ⟨x1, x2, x3⟩ := r7 a.toNat (fun x hx q => c ⟨x, hx, q⟩)
      exact ⟨Z, z1, z2, z3, x1.trans z4.1, x2.trans z4.2.1, x3.trans z4.2.2⟩
theorem sB_pass {k : Nat} {zn : Int} {Q : Option mi_V → sm_H → Prop} (hSb : ab_Sh sx_sk hb) (hF : cv_F hb U) (on : mi_in zn) (on1 : mi_in (zn + 1)) (K : ∀ h, sB_I hb k 0 h → me_E (d + 6) 67 7 [some (.inr (.inr 78)), some (.inl (zn + 1)), some (.inl (-1))] [] h Q) : ∀ (m : Nat) (h : sm_H), m ≤ 70 → sB_I hb k m h → me_E (d + 6) 67 28 [some (.inr (.inr 78)), some (.inl zn), some (.inl ((m : Int) - 1))] [] h Q := by
  intro m
  induction m with
  | zero =>
    intro h _ hI
    refine mt_spC hI.1.1 on ⟨by decide, by decide⟩ ?_ (fun q => absurd q (by decide))
    intro c1
    refine ⟨on1, fun h1 g1 g2 => ?_⟩
    have e0 := me_nil g2
    subst e0
    exact K h1 hI
  | succ m ih =>
    intro h hm hI
    have ez : ((m + 1 : Nat) : Int) - 1 = (m : Int) := by omega
    rw [ez]
    refine mt_spC hI.1.1 on ⟨by omega, by omega⟩ (fun q => by exfalso; omega) ?_
    intro c1 h1 g1 g2
    have e0 := me_nil g2
    subst e0
    refine ⟨_, sB_step (d := d) hSb hF (by omega) hI, fun w h2 oww hq => ?_⟩
    obtain ⟨rfl, hI2⟩ := hq
    refine mt_spD hI2.1.1 on ⟨by omega, by omega⟩ ⟨by omega, fun h3 g1 g2 => ?_⟩
    have e0 := me_nil g2
    subst e0
    exact ih h3 (by omega) hI2
def sB_H (hb : sm_H) (k : Nat) (h : sm_H) : Prop := ss_H hb k h ∧ sp_eq 70 (cB h) (sps_k (bG (GC hb)) 70 k) ∧ ∀ j, k = j + 1 → (mi_f h 9999 = 0 → sp_eq 70 (sps_k (bG (GC hb)) 70 (j + 1)) (sps_k (bG (GC hb)) 70 j)) ∧ ∀ F : Nat, F < 70 → ∀ a ∈ cv_A hb F, at_bt hb (sps_k (GC hb) 70 j) (sps_k (GC hb) 70 (j + 1)) h a.toNat
theorem sB_end {k : Nat} {h : sm_H} (hF : cv_F hb U) (hH : sB_H hb k h) (hx : mi_f h 9999 = 0 ∨ 100000 ≤ k) : sB_Q hb none h := by
  obtain ⟨H0, b1, b2⟩ := hH
  refine ⟨ss_end hF H0 hx, ?_⟩
  obtain ⟨i1, i2, i3, i4, i5, i6⟩ := H0
  have hG := cv_OK hF
  cases k with
  | zero =>
    exfalso
    rcases hx with q | q
    · exact i5 rfl q
    · omega
  | succ j =>
    obtain ⟨j1, j2⟩ := i6 j rfl
    obtain ⟨l1, l2⟩ := b2 j rfl
    have E : sp_eq 70 (sps_k (GC hb) 70 (j + 1)) (sps_k (GC hb) 70 j) := by
      rcases hx with q | q
      · exact j1 q
      · exact sps_k_stop hG (by omega)
    have EB : sp_eq 70 (sps_k (bG (GC hb)) 70 (j + 1)) (sps_k (bG (GC hb)) 70 j) := by
      rcases hx with q | q
      · exact l1 q
      · exact sps_k_stop (bG_OK hG) (by omega)
    refine ⟨⟨j, i3.trans E, fun F hF' a ha => ?_⟩, j, b1.trans EB, fun F hF' => sps_fix (bG_OK hG) 70 _ (Nat.le_refl _) (sps_k_01 j) (sps_k_up (bG_OK hG) j) EB F hF'⟩
    obtain ⟨Z, z1, z2, z3, z4⟩ := l2 F hF' a ha
    have a0 := (cv_as_in _ _ (hF.2 F hF') a ha).1.1
    have ez : ((a.toNat : Nat) : Int) = a := Int.toNat_of_nonneg a0
    refine at_ok_eq (sp_anti z3 (sps_k_01 j) (sp_le_tr z2 E.le) z1) ?_ z4
    rw [ez]
    exact hG F hF' _ (List.mem_map.mpr ⟨a, ha, rfl⟩)
theorem sB_loop (hSb : ab_Sh sx_sk hb) (hF : cv_F hb U) : ∀ (N k : Nat) (q2 : Option mi_V) (h : sm_H), 100000 - k < N → k ≤ 100000 → (∀ v, q2 = some v → mi_ok v) → sB_H hb k h → me_E (d + 6) 67 7 [some (.inr (.inr 78)), some (.inl (k : Int)), q2] [] h (sB_Q hb) := by
  have hG := cv_OK hF
  intro N
  induction N with
  | zero => intro k q2 h hN; exfalso; omega
  | succ N ih =>
    intro k q2 h hN hk oq hH
    refine mt_spB hH.1.1 ⟨by omega, by omega⟩ oq ?_ ?_ ?_
    · intro b c1 h1 g1 g2
      have e0 := me_nil g2
      subst e0
      exact sB_end hF hH (Or.inl c1)
    · intro b c1 c2 h1 g1 g2
      have e0 := me_nil g2
      subst e0
      exact sB_end hF hH (Or.inr (by omega))
    · intro b c1 c2 h1 s1 s2 s3
      obtain ⟨⟨i1, i2, i3, i4, i5, i6⟩, w1, w2⟩ := hH
      have eX : cX h1 = cX h := cX_fr s3 i1 rfl
      have eB : cB h1 = cB h := cB_fr s3 i1 rfl
      have I1 : ss_I hb k 70 h1 := by
        refine ⟨s1, i2.trans (s3.wide (fun c hc => ab_swr_ok (by decide) hc)), ?_, ?_, ?_, ?_, fun F hF' => by rw [me_a (k := 82) s3 i1 rfl rfl]; exact i4 F hF', fun _ => by rw [eX]; exact i3, fun F f0 f1 => by omega⟩
        · rw [eX]; exact sps_eq hG 70 _ _ (Nat.le_refl _) i3
        · rw [eX]; exact i3.symm.le
        · rw [eX]
          intro F hF'
          rw [(i3 F hF').1]
          exact sps_k_01 k F hF'
        · rw [eX]
          intro F hF'
          obtain ⟨a1, a2, a3⟩ := i3.fs (hG F hF')
          obtain ⟨b1, b2, b3⟩ := i3 F hF'
          rw [a1, a2, a3, b1, b2, b3]
          exact sps_k_up hG k F hF'
      have J1 : sB_I hb k 70 h1 := by
        refine ⟨I1, ⟨?_, ?_, fun _ => by rw [eB]; exact w1⟩, fun F f0 f1 => by omega⟩
        · rw [eB]; exact sps_eq (bG_OK hG) 70 _ _ (Nat.le_refl _) w1
        · rw [eB]
          intro F hF'
          obtain ⟨a1, a2, a3⟩ := w1.fs (bG_OK hG F hF')
          obtain ⟨b1, b2, b3⟩ := w1 F hF'
          rw [a1, a2, a3, b1, b2, b3]
          exact sps_k_up (bG_OK hG) k F hF'
      refine sB_pass (k := k) hSb hF ⟨by omega, by omega⟩ ⟨by omega, by omega⟩ (fun h2 hI => ?_) 70 h1 (Nat.le_refl _) J1
      obtain ⟨⟨j1, j2, j3, j4, j5, j6, j7, j8, j9⟩, ⟨k1, k2, k3⟩, k4⟩ := hI
      have ek : (k : Int) + 1 = ((k + 1 : Nat) : Int) := by omega
      rw [ek]
      exact ih (k + 1) _ h2 (by omega) (by omega) (me_oi ⟨by decide, by decide⟩) ⟨⟨j1, j2, j3, j7, fun q => by omega, fun j ej => by
        have : j = k := by omega
        subst this
        exact ⟨fun q => j3.symm.trans (j8 q), fun F hF' u hu => j9 F (Nat.zero_le _) hF' u hu⟩⟩, k1, fun j ej => by
        have : j = k := by omega
        subst this
        exact ⟨fun q => k1.symm.trans (k3 q), fun F hF' a ha => k4 F (Nat.zero_le _) hF' a ha⟩⟩
theorem me_spreadStartsB {h : sm_H} (hSb : ab_Sh sx_sk hb) (hF : cv_F hb U) (hS : ab_Sh sx_sk h) (hFr : ab_Fr rm_W hb h) (h0 : sp_eq 70 (cX h) sp_bot) (h0' : ∀ F : Nat, F < 70 → mi_a h 83 F = 0) : me_E (d + 6) 67 0 [some (.inr (.inr 78)), none, none] [] h (sB_Q hb) := by
  refine mt_spA hS (fun h1 s1 s2 s3 => ?_)
  have eX : cX h1 = cX h := cX_fr s3 hS rfl
  have eB : cB h1 = cB h := cB_fr s3 hS rfl
  refine sB_loop hSb hF 100001 0 none h1 (by decide) (by decide) me_on ⟨⟨s1, hFr.trans (s3.wide (fun c hc => ab_swr_ok (by decide) hc)), by rw [eX]; exact h0, fun F hF' => ?_, fun _ => by omega, fun j ej => by omega⟩, ?_, fun j ej => by omega⟩
  · have : mi_a h1 82 F = 1000 := by
      have := (h0 F hF').2.2
      rw [← eX] at this
      exact this
    omega
  · rw [eB]
    intro F hF'
    refine ⟨(h0 F hF').1, ?_, (h0 F hF').2.2⟩
    show b64 (mi_a h 83 F) = 0
    rw [h0' F hF']
    rfl
end SBS
/-! the class's Sets: what may follow a part -/
def pf_v (hb : sm_H) (X : sp_X) (b : Int64) (u : Nat) : Int64 := sk_r X b ((cv_row hb 60 (mi_a hb 71 u)).map (cv_p hb))
def sj_Q (hb : sm_H) (X : sp_X) (h : sm_H) (zx : Int64) (row : List Int) (w : Option mi_V) (h' : sm_H) : Prop := w = none ∧ ab_Sh sx_sk h' ∧ ab_Fr si_W h h' ∧ (∀ u : Nat, (u : Int) ∈ row → mx_b h' 91 u = pf_v hb X zx u) ∧ ∀ u : Nat, (u : Int) ∉ row → mx_b h' 91 u = mx_b h 91 u
section SJI
variable {d : Nat} {hb : sm_H} {U : Int} {X : sp_X}
theorem sj_loop {za : Int} {zx : Int64} (hSb : ab_Sh sx_sk hb) (hU : cv_u hb U) (h01 : sp_01 70 X) (oa : mi_in za) : ∀ (N : Nat) (zp zn : Int) (q6 q7 q8 q9 qa qb : Option mi_V) (h : sm_H), (N : Int) = 60 - zn → 0 ≤ zn → (zp = -1 ∨ (zn ≤ zp ∧ zp < U)) → pt_all hb X h (cv_row hb N zp) → (∀ v, q6 = some v → mi_ok v) → (∀ v, q7 = some v → mi_ok v) → (∀ v, q8 = some v → mi_ok v) → (∀ v, q9 = some v → mi_ok v) → (∀ v, qa = some v → mi_ok v) → (∀ v, qb = some v → mi_ok v) → cv_eq hb h → ab_Sh sx_sk h → me_E (d + 5) 77 16 [some (.inr (.inr 78)), some (.inl za), some (.inr (.inl zx)), none, some (.inl zp), some (.inl zn), q6, q7, q8, q9, qa, qb] [] h (sj_Q hb X h zx (cv_row hb N zp)) := by
  have hU60 := hU.1
  have out : ∀ h : sm_H, ab_Sh sx_sk h → sj_Q hb X h zx [] none h := fun h hS => ⟨rfl, hS, ab_Fr.refl, fun u hu => absurd hu List.not_mem_nil, fun u _ => rfl⟩
  intro N
  induction N with
  | zero =>
    intro zp zn q6 q7 q8 q9 qa qb h hN n0 hp hpt o6 o7 o8 o9 oaa ob e hS
    have op : mi_in zp := ⟨by omega, by omega⟩
    have on : mi_in zn := ⟨by omega, by omega⟩
    refine mt_siB hS oa op on o6 o7 o8 o9 oaa ob ?_ ?_ ?_ ?_ ?_
    · intro c1 h1 g1 g2
      have e0 := me_nil g2
      subst e0
      exact out h1 hS
    · intro c1 c2; exfalso; omega
    · intro c1 c2; exfalso; omega
    · intro c1 c2; exfalso; omega
    · intro c1 c2; exfalso; omega
  | succ N ih =>
    intro zp zn q6 q7 q8 q9 qa qb h hN n0 hp hpt o6 o7 o8 o9 oaa ob e hS
    have op : mi_in zp := ⟨by omega, by omega⟩
    have on : mi_in zn := ⟨by omega, by omega⟩
    refine mt_siB hS oa op on o6 o7 o8 o9 oaa ob ?_ ?_ ?_ ?_ ?_
    · intro c1 h1 g1 g2
      have e0 := me_nil g2
      subst e0
      have er : cv_row hb (N + 1) zp = [] := by rw [cv_row_c, if_pos c1]
      rw [er]
      exact out h1 hS
    · intro c1 c2; exfalso; omega
    · intro c1 c2 c3; exfalso; omega
    · intro c1 c2 c3 c4; exfalso; omega
    · intro c1 c2 c3 c4
      have p01 : 0 ≤ zp ∧ zp < U := by omega
      obtain ⟨w1, w2, w3⟩ := hU.2 zp p01.1 p01.2
      have er : cv_row hb (N + 1) zp = zp :: cv_row hb N (mi_a hb 71 zp.toNat) := by rw [cv_row_c, if_neg c1]
      have ef : cv_row hb N (mi_a hb 71 zp.toNat) = cv_row hb 60 (mi_a hb 71 zp.toNat) := cv_row_fuel hU N 60 _ (by omega) (fun q => by omega)
      rw [er] at hpt ⊢
      have hpr : pt_all hb X h (cv_row hb N (mi_a hb 71 zp.toNat)) := fun u hu => hpt u (List.mem_cons_of_mem _ hu)
      obtain ⟨k1, k2⟩ := hpt zp List.mem_cons_self
      have ez : (zp.toNat : Int) = zp := Int.toNat_of_nonneg p01.1
      rw [ez] at k1 k2
      refine ⟨by omega, fun h1 g1 g2 => ?_⟩
      have e0 := me_nil g2
      subst e0
      have oq : mi_in (mi_a h1 71 zp.toNat) := mi_inT _
      have SF := me_startsFrom (d := d) (zf := mi_a hb 71 zp.toNat) (zx := zx) hSb hU h01 e hS (by omega) (by rw [← ef]; exact hpr)
      rw [← e.2.2.2.2.2.2.1] at SF
      refine ⟨_, SF, fun w h2 oww hq => ?_⟩
      obtain ⟨rfl, rfl⟩ := hq
      rw [e.2.2.2.2.2.2.1, ← ef]
      rw [e.2.2.2.2.2.2.1] at oq
      /- within the part's form -/
      have nx : ∀ (zw : Int64) (h3 : sm_H), zw = sk_i X zx (cv_p hb zp) ((cv_row hb N (mi_a hb 71 zp.toNat)).map (cv_p hb)) → ab_Sh sx_sk h3 → (∀ i, mx_b h3 91 i = if i = zp.toNat then sk_r X zx ((cv_row hb N (mi_a hb 71 zp.toNat)).map (cv_p hb)) else mx_b h2 91 i) → ab_Fr [(11648, 11649)] h2 h3 → ∃ Q1, me_E (d + 4) 71 0 (mi_entry 3 [.inr (.inr 60), .inl zp]) [] h3 Q1 ∧ ∀ w h4, (∀ v, w = some v → mi_ok v) → Q1 w h4 → me_E (d + 5) 77 107 [some (.inr (.inr 78)), some (.inl za), some (.inr (.inl zx)), none, some (.inl zp), some (.inl zn), some (.inl (mi_a hb 71 zp.toNat)), some (.inr (.inl (sk_r X zx ((cv_row hb N (mi_a hb 71 zp.toNat)).map (cv_p hb))))), none, some (.inr (.inl zw)), none, qb] (mi_back w []) h4 (sj_Q hb X h2 zx (zp :: cv_row hb N (mi_a hb 71 zp.toNat))) := by
        intro zw h3 ew s1 s0 s2
        refine ⟨_, me_gformIn (d := d + 3) s1 p01.1 (by omega), fun w h4 oww hq => ?_⟩
        obtain ⟨rfl, rfl⟩ := hq
        have e3 : cv_eq hb h4 := by
          have a := cv_eq_fr s2 hS (by rfl)
          exact ⟨a.1.trans e.1, a.2.1.trans e.2.1, a.2.2.1.trans e.2.2.1, a.2.2.2.1.trans e.2.2.2.1, a.2.2.2.2.1.trans e.2.2.2.2.1, a.2.2.2.2.2.1.trans e.2.2.2.2.2.1, a.2.2.2.2.2.2.1.trans e.2.2.2.2.2.2.1, a.2.2.2.2.2.2.2.trans e.2.2.2.2.2.2.2⟩
        have eg : gf_v h4 zp = (cv_p hb zp).1 := by
          show gf_v h4 zp = gf_v hb zp
          unfold gf_v
          rw [e3.2.2.2.2.1, e3.2.2.2.2.2.1]
        rw [eg]
        have g01 : (cv_p hb zp).1 = -1 ∨ (0 ≤ (cv_p hb zp).1 ∧ (cv_p hb zp).1 < 70) := w2
        have og : mi_in (cv_p hb zp).1 := ⟨by omega, by omega⟩
        have go : ∀ h5, ab_Sh sx_sk h5 → ab_Fr [(9999, 10000), (10368, 10369)] h4 h5 → me_E (d + 5) 77 16 [some (.inr (.inr 78)), some (.inl za), some (.inr (.inl zx)), none, some (.inl (mi_a hb 71 zp.toNat)), some (.inl (zn + 1)), some (.inl (mi_a hb 71 zp.toNat)), some (.inr (.inl (sk_r X zx ((cv_row hb N (mi_a hb 71 zp.toNat)).map (cv_p hb))))), none, some (.inr (.inl zw)), none, some (.inl (cv_p hb zp).1)] [] h5 (sj_Q hb X h2 zx (zp :: cv_row hb N (mi_a hb 71 zp.toNat))) := by
          intro h5 t1 t2
          have F5 : ab_Fr si_W h2 h5 := (s2.wide (fun c hc => ab_swr_ok (by decide) hc)).trans (t2.wide (fun c hc => ab_swr_ok (by decide) hc))
          have a := cv_eq_fr F5 hS (by rfl)
          have e5 : cv_eq hb h5 := ⟨a.1.trans e.1, a.2.1.trans e.2.1, a.2.2.1.trans e.2.2.1, a.2.2.2.1.trans e.2.2.2.1, a.2.2.2.2.1.trans e.2.2.2.2.1, a.2.2.2.2.2.1.trans e.2.2.2.2.2.1, a.2.2.2.2.2.2.1.trans e.2.2.2.2.2.2.1, a.2.2.2.2.2.2.2.trans e.2.2.2.2.2.2.2⟩
          have pt5 : pt_all hb X h5 (cv_row hb N (mi_a hb 71 zp.toNat)) := fun u hu => by
            obtain ⟨x1, x2⟩ := hpr u hu
            exact ⟨(me_a (k := 89) F5 hS rfl rfl).trans x1, (me_b (k := 90) F5 hS rfl rfl).trans x2⟩
          refine (ih (mi_a hb 71 zp.toNat) (zn + 1) _ _ _ _ _ _ h5 (by omega) (by omega) (by omega) pt5 (me_oi oq) (fun v q => by cases q; trivial) me_on (fun v q => by cases q; trivial) me_on (me_oi og) e5 t1).imp (fun w h' hq => ?_)
          obtain ⟨r1, r2, r3, r4, r5⟩ := hq
          have f91 : ∀ u, mx_b h5 91 u = mx_b h4 91 u := fun u => me_b (k := 91) t2 s1 rfl rfl
          refine ⟨r1, r2, F5.trans r3, fun u hu => ?_, fun u hu => ?_⟩
          · by_cases cm : (u : Int) ∈ cv_row hb N (mi_a hb 71 zp.toNat)
            · exact r4 u cm
            · rcases List.mem_cons.mp hu with hu | hu
              · have eu : u = zp.toNat := by omega
                rw [r5 u cm, f91, s0, if_pos eu, eu, ef]
                rfl
              · exact absurd hu cm
          · have nu : u ≠ zp.toNat := fun q => hu (by rw [q, ez]; exact List.mem_cons_self)
            rw [r5 u (fun q => hu (List.mem_cons_of_mem _ q)), f91, s0, if_neg nu]
        refine mt_siD s1 oa op on oq og ob ?_ ?_ ?_ ?_ ?_ ?_ ?_
        · intro q1
          refine ⟨by omega, fun h5 g1 g2 => ?_⟩
          have e0 := me_nil g2
          subst e0
          exact go h5 s1 ab_Fr.refl
        · intro q1 q2; exfalso; omega
        · intro q1 q2; exfalso; omega
        · intro q1 q2 q3; exfalso; omega
        · intro q1 q2 q3; exfalso; omega
        · intro q1 q2 q3 q4
          refine ⟨by omega, fun h5 g1 g2 => ?_⟩
          have e0 := me_nil g2
          subst e0
          exact go h5 s1 ab_Fr.refl
        · intro q1 q2 q3 q4
          exact ⟨by omega, fun h5 t1 t2 t3 t4 => go h5 t1 t4⟩
      have wk : ∀ {A B : Int64}, (cv_p hb zp).2.2.1 = (if mi_a h2 72 zp.toNat = 0 then (0 : Int) else if mi_a h2 72 zp.toNat = 5 then 1 else 2) := by
        intro _ _
        rw [e.2.2.2.2.2.2.2]
        all_goals rfl
      refine mt_siC hS oa op on oq o7 o8 o9 oaa ob ?_ ?_ ?_ ?_
      · intro q1; exfalso; omega
      · intro q1 q2; exfalso; omega
      · intro q1 q2 q3
        refine ⟨by omega, fun h3 s1 s2 s3 => nx _ h3 ?_ s1 s2 s3⟩
        unfold sk_i
        rw [wk (A := 0) (B := 0), if_neg]
        intro q
        by_cases c0 : mi_a h2 72 zp.toNat = 0
        · rw [if_pos c0] at q; exact absurd q (by decide)
        · rw [if_neg c0, if_neg q3] at q; exact absurd q (by decide)
      · intro q1 q2 q3
        refine ⟨by omega, fun h3 s1 s2 s3 => nx _ h3 ?_ s1 s2 s3⟩
        unfold sk_i
        rw [wk (A := 0) (B := 0), if_pos, k2]
        rw [if_neg (by omega), if_pos q3]
theorem me_spreadIntoF {h : sm_H} {za : Int} {zx : Int64} (hSb : ab_Sh sx_sk hb) (hU : cv_u hb U) (h01 : sp_01 70 X) (a0 : 0 ≤ za) (a1 : za < 66) (hp : mi_a hb 65 za.toNat = -1 ∨ (0 ≤ mi_a hb 65 za.toNat ∧ mi_a hb 65 za.toNat < U)) (hpt : pt_all hb X h (cv_l hb za)) (e : cv_eq hb h) (hS : ab_Sh sx_sk h) : me_E (d + 5) 77 0 [some (.inr (.inr 78)), some (.inl za), some (.inr (.inl zx)), none, none, none, none, none, none, none, none, none] [] h (sj_Q hb X h zx (cv_l hb za)) := by
  have oa : mi_in za := ⟨by omega, by omega⟩
  refine mt_siA hS oa ?_ ?_ ?_
  · intro c1; exfalso; omega
  · intro c1 c2; exfalso; omega
  · intro c1 c2
    refine ⟨by omega, fun h1 g1 g2 => ?_⟩
    have e0 := me_nil g2
    subst e0
    rw [e.2.2.1]
    exact sj_loop hSb hU h01 oa 60 _ 0 none none none none none none h1 (by decide) (by decide) hp hpt me_on me_on me_on me_on me_on me_on e hS
end SJI
/-! the class's Sets: spreadFollows, with what follows each part -/
def cv_D (hb : sm_H) : Prop := ∀ F F' : Nat, F < 70 → F' < 70 → ∀ u : Int, cv_of hb F u → cv_of hb F' u → F = F'
def fo_b (hb : sm_H) (X : sp_X) (A B : sp_F) (h : sm_H) (F u : Nat) : Prop := ∃ b, tl (A F) b ∧ tl b (B F) ∧ mx_b h 91 u = pf_v hb X b u
def sF_Q (hb : sm_H) (X : sp_X) (W0 : sp_F) (h : sm_H) (w : Option mi_V) (h' : sm_H) : Prop := w = none ∧ ab_Sh sx_sk h' ∧ ab_Fr si_W h h' ∧ ∃ j, mx_b h' 81 = sk_k X (GC hb) 70 W0 j ∧ sw_sol X 70 (GC hb) (sk_k X (GC hb) 70 W0 j) ∧ ∀ F : Nat, F < 70 → ∀ u : Nat, cv_of hb F u → mx_b h' 91 u = pf_v hb X (sk_k X (GC hb) 70 W0 j F) u
section SVG
variable {d : Nat} {hb h0 : sm_H} {U : Int} {X : sp_X} {W0 : sp_F}
theorem fo_fr {A B : sp_F} {h h' : sm_H} {F u : Nat} (k : fo_b hb X A B h F u) (e : mx_b h' 91 u = mx_b h 91 u) : fo_b hb X A B h' F u := by
  obtain ⟨b, b1, b2, b3⟩ := k
  exact ⟨b, b1, b2, e.trans b3⟩
/-- so far in this turn -/
def sF_I (hb : sm_H) (X : sp_X) (Wk WN : sp_F) (F : Nat) (as : List Int) (h : sm_H) : Prop := sw_le 70 Wk (mx_b h 81) ∧ (∀ F' : Nat, F' < F → ∀ u : Nat, cv_of hb F' u → fo_b hb X Wk WN h F' u) ∧ ∀ a ∈ as, ∀ u : Nat, (u : Int) ∈ cv_l hb a → fo_b hb X Wk WN h F u
theorem sF_alts {zn : Int} {F : Nat} {Q : Option mi_V → sm_H → Prop} {Wk WN : sp_F} (hSb : ab_Sh sx_sk hb) (hF : cv_F hb U) (hD : cv_D hb) (h01 : sp_01 70 X) (hF70 : F < 70) (on : mi_in zn) (K : ∀ h zf za zk, zf = (F : Int) + 1 → mi_in za → mi_in zk → sv_B hb X h0 h → sk_p X (GC hb) (69 - F) (F + 1) (mx_b h 81) = WN → (mi_f h 9999 = 0 → mx_b h 81 = Wk) → sF_I hb X Wk WN F (cv_A hb F) h → me_E (d + 6) 76 27 [some (.inr (.inr 78)), some (.inl zn), some (.inl zf), some (.inl za), some (.inl zk)] [] h Q) : ∀ (m : Nat) (as : List Int) (za zk : Int) (h : sm_H), (m : Int) + zk = cv_n hb F → 0 ≤ zk → mi_in za → cv_al hb U m za → as ++ cv_as hb m za = cv_A hb F → sv_B hb X h0 h → sk_p X (GC hb) (69 - F) (F + 1) (sk_f X F ((cv_as hb m za).map (fun a => (cv_l hb a).map (cv_p hb))) (mx_b h 81)) = WN → (mi_f h 9999 = 0 → mx_b h 81 = Wk) → sF_I hb X Wk WN F as h → me_E (d + 6) 76 48 [some (.inr (.inr 78)), some (.inl zn), some (.inl (F : Int)), some (.inl za), some (.inl zk)] [] h Q := by
  have cn : cv_n hb F ≤ 6 := by unfold cv_n; omega
  have of : mi_in (F : Int) := ⟨by omega, by omega⟩
  intro m
  induction m with
  | zero =>
    intro as za zk h hN k0 oa hal eas hB hW hc hI
    have ok : mi_in zk := ⟨by omega, by omega⟩
    obtain ⟨b1, b2, b3, b4⟩ := id hB
    have e64 : mi_a h 64 ((F : Int)).toNat = mi_a hb 64 F := by rw [b3.2.1]; rfl
    have ea : as = cv_A hb F := by rw [← eas]; exact (List.append_nil as).symm
    rw [ea] at hI
    refine mt_svD b1 on of oa ok ?_ ?_ ?_ ?_ ?_ ?_ ?_ ?_ ?_
    · intro c1; exfalso; omega
    · intro c1; exfalso; omega
    · intro c1; exfalso; omega
    · intro c1 c2; exfalso; omega
    · intro c1 c2; exfalso; omega
    · intro c1 c2; exfalso; omega
    · intro c1 c2 c3
      refine ⟨by omega, fun h1 g1 g2 => ?_⟩
      have e0 := me_nil g2
      subst e0
      exact K h1 _ _ _ rfl oa ok hB hW hc hI
    · intro c1 c2 c3 c4
      refine ⟨by omega, fun h1 g1 g2 => ?_⟩
      have e0 := me_nil g2
      subst e0
      exact K h1 _ _ _ rfl oa ok hB hW hc hI
    · intro c1 c2 c3 c4
      exfalso
      rw [e64] at c3
      unfold cv_n at hN
      omega
  | succ m ih =>
    intro as za zk h hN k0 oa hal eas hB hW hc hI
    have ok : mi_in zk := ⟨by omega, by omega⟩
    obtain ⟨b1, b2, b3, b4⟩ := id hB
    obtain ⟨⟨a0, a1⟩, hp, hal'⟩ := hal
    have e64 : mi_a h 64 ((F : Int)).toNat = mi_a hb 64 F := by rw [b3.2.1]; rfl
    have lt : zk < mi_a hb 64 F := by unfold cv_n at hN; omega
    have eas' : (as ++ [za]) ++ cv_as hb m (mi_a hb 66 za.toNat) = cv_A hb F := by
      rw [← eas, List.append_assoc]
      all_goals rfl
    have hz : za ∈ cv_A hb F := by rw [← eas']; exact List.mem_append.mpr (Or.inl (List.mem_append.mpr (Or.inr (List.mem_singleton.mpr rfl))))
    have hof : ∀ u ∈ cv_l hb za, cv_of hb F u := fun u hu => ⟨za, hz, hu⟩
    refine mt_svD b1 on of oa ok ?_ ?_ ?_ ?_ ?_ ?_ ?_ ?_ ?_
    · intro c1; exfalso; omega
    · intro c1; exfalso; omega
    · intro c1; exfalso; omega
    · intro c1 c2; exfalso; omega
    · intro c1 c2; exfalso; omega
    · intro c1 c2; exfalso; omega
    · intro c1 c2 c3
      exfalso
      rw [e64] at c3
      omega
    · intro c1 c2 c3 c4; exfalso; omega
    · intro c1 c2 c3 c4
      refine ⟨by omega, fun h1 g1 g2 => ?_⟩
      have e0 := me_nil g2
      subst e0
      have hpt : pt_all hb X h1 (cv_l hb za) := fun u hu => by
        have ho := hof u hu
        have u0 := (cv_of_in hF hF70 ho).1
        refine b4 F hF70 u.toNat ?_
        rw [Int.toNat_of_nonneg u0]
        exact ho
      refine ⟨_, (me_spreadInto (d := d) (hb := hb) (X := X) (U := U) (zx := mx_b h1 81 F) hSb hF.1 h01 a0 a1 hp hpt b3 b1).and (me_spreadIntoF (d := d) (hb := hb) (X := X) (U := U) (zx := mx_b h1 81 F) hSb hF.1 h01 a0 a1 hp hpt b3 b1), fun w h2 oww hq => ?_⟩
      obtain ⟨⟨rfl, r2, r3, r4, r5⟩, -, -, -, f1, f2⟩ := hq
      have B2 := sv_B_fr hB r2 r3
      have lo : tl (Wk F) (mx_b h1 81 F) := hI.1 F hF70
      have hi : tl (mx_b h1 81 F) (WN F) := by
        rw [← hW]
        exact tl_tr (sk_f_le (n := 70) _ _ F hF70) (sk_p_le (n := 70) _ _ _ F hF70)
      have I2 : sF_I hb X Wk WN F (as ++ [za]) h2 := by
        refine ⟨fun i hi' => ?_, fun F' hF' u hu => ?_, fun a ha u hu => ?_⟩
        · rw [r4]
          exact tl_tr (hI.1 i hi') (tl_l _ _)
        · refine fo_fr (hI.2.1 F' hF' u hu) (f2 u (fun q => ?_))
          have := hD F F' hF70 (by omega) u (hof u q) hu
          omega
        · by_cases cm : (u : Int) ∈ cv_l hb za
          · exact ⟨_, lo, hi, f1 u cm⟩
          · rcases List.mem_append.mp ha with ha | ha
            · exact fo_fr (hI.2.2 a ha u hu) (f2 u cm)
            · rw [List.mem_singleton.mp ha] at hu
              exact absurd hu cm
      refine mt_svE r2 on of oa ok ?_ ?_ ?_
      · intro q1; exfalso; omega
      · intro q1 q2; exfalso; omega
      · intro q1 q2
        refine ⟨by omega, fun h3 g1 g2 => ?_⟩
        have e0 := me_nil g2
        subst e0
        rw [B2.2.2.1.2.2.2.1]
        refine ih (as ++ [za]) _ (zk + 1) h3 (by omega) (by omega) (mi_inT _) hal' eas' B2 ?_ (fun q => ?_) I2
        · rw [r4]
          exact hW
        · obtain ⟨x1, x2⟩ := r5 q
          exact x2.trans (hc x1)
theorem sF_forms {zn : Int} {Q : Option mi_V → sm_H → Prop} {Wk WN : sp_F} (hSb : ab_Sh sx_sk hb) (hF : cv_F hb U) (hD : cv_D hb) (h01 : sp_01 70 X) (on : mi_in zn) (on1 : mi_in (zn + 1)) (K : ∀ h q2 q3 q4, (∀ v, q2 = some v → mi_ok v) → (∀ v, q3 = some v → mi_ok v) → (∀ v, q4 = some v → mi_ok v) → sv_B hb X h0 h → mx_b h 81 = WN → (mi_f h 9999 = 0 → mx_b h 81 = Wk) → sF_I hb X Wk WN 70 [] h → me_E (d + 6) 76 7 [some (.inr (.inr 78)), some (.inl (zn + 1)), q2, q3, q4] [] h Q) : ∀ (c F : Nat) (q3 q4 : Option mi_V) (h : sm_H), F + c = 70 → (∀ v, q3 = some v → mi_ok v) → (∀ v, q4 = some v → mi_ok v) → sv_B hb X h0 h → sk_p X (GC hb) c F (mx_b h 81) = WN → (mi_f h 9999 = 0 → mx_b h 81 = Wk) → sF_I hb X Wk WN F [] h → me_E (d + 6) 76 27 [some (.inr (.inr 78)), some (.inl zn), some (.inl (F : Int)), q3, q4] [] h Q := by
  intro c
  induction c with
  | zero =>
    intro F q3 q4 h hc o3 o4 hB hW hk hI
    have of : mi_in (F : Int) := ⟨by omega, by omega⟩
    have eF : F = 70 := by omega
    rw [eF] at hI
    refine mt_svC hB.1 on of o3 o4 ?_ ?_ ?_
    · intro c1
      refine ⟨on1, fun h1 g1 g2 => ?_⟩
      have e0 := me_nil g2
      subst e0
      exact K h1 _ _ _ (me_oi of) o3 o4 hB hW hk hI
    · intro c1 c2; exfalso; omega
    · intro c1 c2; exfalso; omega
  | succ c ih =>
    intro F q3 q4 h hc o3 o4 hB hW hk hI
    have of : mi_in (F : Int) := ⟨by omega, by omega⟩
    refine mt_svC hB.1 on of o3 o4 ?_ ?_ ?_
    · intro c1; exfalso; omega
    · intro c1 c2; exfalso; omega
    · intro c1 c2
      refine ⟨by omega, fun h1 g1 g2 => ?_⟩
      have e0 := me_nil g2
      subst e0
      have e63 : mi_a h1 63 ((F : Int)).toNat = mi_a hb 63 F := by rw [hB.2.2.1.1]; rfl
      rw [e63]
      have ec : 69 - F = c := by omega
      refine sF_alts (F := F) (WN := WN) (Wk := Wk) hSb hF hD h01 (by omega) on (fun h2 zf za zk ez oa ok hB2 hW2 hk2 hI2 => ?_) (cv_n hb F) [] _ 0 h1 (by omega) (by decide) (mi_inT _) (hF.2 F (by omega)) rfl hB (by rw [ec]; exact hW) hk hI
      rw [ez]
      rw [ec] at hW2
      refine ih (F + 1) _ _ h2 (by omega) (me_oi oa) (me_oi ok) hB2 hW2 hk2 ⟨hI2.1, fun F' hF' u hu => ?_, fun a ha => by cases ha⟩
      by_cases cF : F' = F
      · rw [cF] at hu ⊢
        obtain ⟨a, ha, hu⟩ := hu
        exact hI2.2.2 a ha u hu
      · exact hI2.2.1 F' (by omega) u hu
theorem fo_end {A B W : sp_F} {h : sm_H} {F u : Nat} (k : fo_b hb X A B h F u) (e1 : A F = W F) (e2 : B F = W F) : mx_b h 91 u = pf_v hb X (W F) u := by
  obtain ⟨b, b1, b2, b3⟩ := k
  rw [e1] at b1
  rw [e2] at b2
  rw [b3, tl_anti b2 b1]
theorem sF_loop (hSb : ab_Sh sx_sk hb) (hF : cv_F hb U) (hD : cv_D hb) (h01 : sp_01 70 X) : ∀ (N k : Nat) (q2 q3 q4 : Option mi_V) (h : sm_H), 100000 - k < N → k ≤ 100000 → (∀ v, q2 = some v → mi_ok v) → (∀ v, q3 = some v → mi_ok v) → (∀ v, q4 = some v → mi_ok v) → sv_B hb X h0 h → mx_b h 81 = sk_k X (GC hb) 70 W0 k → (k = 0 → mi_f h 9999 ≠ 0) → (∀ j, k = j + 1 → (mi_f h 9999 = 0 → sk_k X (GC hb) 70 W0 (j + 1) = sk_k X (GC hb) 70 W0 j) ∧ ∀ F : Nat, F < 70 → ∀ u : Nat, cv_of hb F u → fo_b hb X (sk_k X (GC hb) 70 W0 j) (sk_k X (GC hb) 70 W0 (j + 1)) h F u) → me_E (d + 6) 76 7 [some (.inr (.inr 78)), some (.inl (k : Int)), q2, q3, q4] [] h (sF_Q hb X W0 h0) := by
  intro N
  induction N with
  | zero => intro k q2 q3 q4 h hN; exfalso; omega
  | succ N ih =>
    intro k q2 q3 q4 h hN hk o2 o3 o4 hB hW hc0 hc1
    have on : mi_in (k : Int) := ⟨by omega, by omega⟩
    refine mt_svB hB.1 on o2 o3 o4 ?_ ?_ ?_
    · intro b c1 h1 g1 g2
      have e0 := me_nil g2
      subst e0
      cases k with
      | zero => exact absurd c1 (hc0 rfl)
      | succ j =>
        have E := (hc1 j rfl).1 c1
        exact ⟨rfl, hB.1, hB.2.1, j, hW.trans E, sk_sol (fun i hi => congrFun E i), fun F hF' u hu => fo_end ((hc1 j rfl).2 F hF' u hu) rfl (congrFun E F)⟩
    · intro b c1 c2 h1 g1 g2
      have e0 := me_nil g2
      subst e0
      have hk0 : k = 99999 + 1 := by omega
      exact ⟨rfl, hB.1, hB.2.1, k, hW, sk_sol (sk_k_stop (by omega)), fun F hF' u hu => fo_end ((hc1 99999 hk0).2 F hF' u hu) (by rw [hk0]; exact (sk_k_stop (n := 70) (k := 99999) (by decide) F hF').symm) (by rw [hk0])⟩
    · intro b c1 c2 h1 s1 s2 s3
      have F1 : ab_Fr si_W h h1 := s3.wide (fun c hc => ab_swr_ok (by decide) hc)
      have B1 := sv_B_fr hB s1 F1
      have e81 : mx_b h1 81 = mx_b h 81 := funext fun i => me_b (k := 81) s3 hB.1 rfl rfl
      refine sF_forms (WN := sk_k X (GC hb) 70 W0 (k + 1)) (Wk := sk_k X (GC hb) 70 W0 k) hSb hF hD h01 on ⟨by omega, by omega⟩ (fun h2 q2 q3 q4 o2 o3 o4 hB2 hW2 hk2 hI2 => ?_) 70 0 _ _ h1 rfl o3 o4 B1 ?_ (fun _ => by rw [e81]; exact hW) ⟨fun i hi => by rw [e81, hW]; exact tl_refl _, fun F' hF' => by omega, fun a ha => by cases ha⟩
      · have ek : (k : Int) + 1 = ((k + 1 : Nat) : Int) := by omega
        rw [ek]
        refine ih (k + 1) _ _ _ h2 (by omega) (by omega) o2 o3 o4 hB2 hW2 (fun q => by omega) (fun j ej => ?_)
        have : j = k := by omega
        subst this
        exact ⟨fun q => hW2.symm.trans (hk2 q), fun F hF' u hu => hI2.2.1 F hF' u hu⟩
      · rw [e81, hW]
        rfl
theorem me_spreadFollowsF {h : sm_H} (hSb : ab_Sh sx_sk hb) (hF : cv_F hb U) (hD : cv_D hb) (h01 : sp_01 70 X) (hS : ab_Sh sx_sk h) (e : cv_eq hb h) (hpt : ∀ F : Nat, F < 70 → ∀ u : Nat, cv_of hb F u → pt_ok (cv_p hb) X h u) : me_E (d + 6) 76 0 [some (.inr (.inr 78)), none, none, none, none] [] h (sF_Q hb X (mx_b h 81) h) := by
  refine mt_svA hS (fun h1 s1 s2 s3 => ?_)
  have F1 : ab_Fr si_W h h1 := s3.wide (fun c hc => ab_swr_ok (by decide) hc)
  exact sF_loop hSb hF hD h01 100001 0 none none none h1 (by decide) (by decide) me_on me_on me_on (sv_B_fr ⟨hS, ab_Fr.refl, e, hpt⟩ s1 F1) (funext fun i => me_b (k := 81) s3 hS rfl rfl) (fun _ => by omega) (fun j ej => by omega)
end SVG
/-! the class's Sets: directors -/
def cv_E (hb : sm_H) : Prop := ∀ F F' : Nat, F < 70 → F' < 70 → ∀ a : Int, a ∈ cv_A hb F → a ∈ cv_A hb F' → F = F'
def dr_v (h : sm_H) (F a : Nat) : Int64 := mx_b h 85 a ||| (if mi_a h 84 a = 1 then mx_b h 81 F else 0)
def fd_Q (hb h : sm_H) (w : Option mi_V) (h' : sm_H) : Prop := w = none ∧ ab_Sh sx_sk h' ∧ ab_Fr [(11264, 11265)] h h' ∧ ∀ F : Nat, F < 70 → ∀ a ∈ cv_A hb F, mx_b h' 88 a.toNat = dr_v h F a.toNat
section FDR
variable {d : Nat} {hb h0 : sm_H} {U : Int}
def fd_I (hb h0 : sm_H) (F : Nat) (as : List Int) (h : sm_H) : Prop := ab_Sh sx_sk h ∧ ab_Fr [(11264, 11265)] h0 h ∧ (∀ F' : Nat, F' < F → ∀ a ∈ cv_A hb F', mx_b h 88 a.toNat = dr_v h0 F' a.toNat) ∧ ∀ a ∈ as, mx_b h 88 a.toNat = dr_v h0 F a.toNat
theorem fd_alts {F : Nat} {Q : Option mi_V → sm_H → Prop} (hS0 : ab_Sh sx_sk h0) (e : cv_eq hb h0) (hF : cv_F hb U) (hE : cv_E hb) (hF70 : F < 70) (K : ∀ h za zk q4 q5, mi_in za → mi_in zk → (∀ v, q4 = some v → mi_ok v) → (∀ v, q5 = some v → mi_ok v) → fd_I hb h0 F (cv_A hb F) h → me_E (d + 6) 79 2 [some (.inr (.inr 78)), some (.inl ((F : Int) + 1)), some (.inl za), some (.inl zk), q4, q5] [] h Q) : ∀ (m : Nat) (as : List Int) (za zk : Int) (q4 q5 : Option mi_V) (h : sm_H), (m : Int) + zk = cv_n hb F → 0 ≤ zk → mi_in za → (∀ v, q4 = some v → mi_ok v) → (∀ v, q5 = some v → mi_ok v) → cv_al hb U m za → as ++ cv_as hb m za = cv_A hb F → fd_I hb h0 F as h → me_E (d + 6) 79 22 [some (.inr (.inr 78)), some (.inl (F : Int)), some (.inl za), some (.inl zk), q4, q5] [] h Q := by
  have cn : cv_n hb F ≤ 6 := by unfold cv_n; omega
  have of : mi_in (F : Int) := ⟨by omega, by omega⟩
  have eF : ((F : Int)).toNat = F := rfl
  intro m
  induction m with
  | zero =>
    intro as za zk q4 q5 h hN k0 oa o4 o5 hal eas hI
    have ok : mi_in zk := ⟨by omega, by omega⟩
    obtain ⟨i1, i2, i3, i4⟩ := id hI
    have e64 : mi_a h 64 F = mi_a hb 64 F := by rw [me_a (k := 64) i2 hS0 rfl rfl, e.2.1]
    have ea : as = cv_A hb F := by rw [← eas]; exact (List.append_nil as).symm
    rw [ea] at hI
    have fin : ∀ h1, ab_Fr [] h h1 → me_E (d + 6) 79 2 [some (.inr (.inr 78)), some (.inl ((F : Int) + 1)), some (.inl za), some (.inl zk), q4, q5] [] h1 Q := fun h1 g2 => by
      have e0 := me_nil g2
      subst e0
      exact K h1 za zk q4 q5 oa ok o4 o5 hI
    refine mt_yfdC i1 of oa ok o4 o5 ?_ ?_ ?_ ?_ ?_ ?_ ?_ ?_ ?_ ?_ ?_ ?_ ?_ ?_ ?_ ?_ ?_ ?_
    · intro c1; exfalso; omega
    · intro c1; exfalso; omega
    · intro c1; exfalso; omega
    · intro c1; exfalso; omega
    · intro c1; exfalso; omega
    · intro c1; exfalso; omega
    · intro c1 c2; exfalso; omega
    · intro c1 c2; exfalso; omega
    · intro c1 c2; exfalso; omega
    · intro c1 c2; exfalso; omega
    · intro c1 c2; exfalso; omega
    · intro c1 c2; exfalso; omega
    · intro c1 c2 c3; exact ⟨by omega, fun h1 g1 g2 => fin h1 g2⟩
    · intro c1 c2 c3 c4; exact ⟨by omega, fun h1 g1 g2 => fin h1 g2⟩
    · intro c1 c2 c3 c4; exfalso; rw [eF, e64] at c3; unfold cv_n at hN; omega
    · intro c1 c2 c3 c4; exfalso; rw [eF, e64] at c3; unfold cv_n at hN; omega
    · intro c1 c2 c3 c4; exfalso; rw [eF, e64] at c3; unfold cv_n at hN; omega
    · intro c1 c2 c3 c4; exfalso; rw [eF, e64] at c3; unfold cv_n at hN; omega
  | succ m ih =>
    intro as za zk q4 q5 h hN k0 oa o4 o5 hal eas hI
    have ok : mi_in zk := ⟨by omega, by omega⟩
    obtain ⟨i1, i2, i3, i4⟩ := id hI
    obtain ⟨⟨a0, a1⟩, hp, hal'⟩ := hal
    have e64 : mi_a h 64 F = mi_a hb 64 F := by rw [me_a (k := 64) i2 hS0 rfl rfl, e.2.1]
    have lt : zk < mi_a hb 64 F := by unfold cv_n at hN; omega
    have eas' : (as ++ [za]) ++ cv_as hb m (mi_a hb 66 za.toNat) = cv_A hb F := by
      rw [← eas, List.append_assoc]
      all_goals rfl
    have hz : za ∈ cv_A hb F := by rw [← eas']; exact List.mem_append.mpr (Or.inl (List.mem_append.mpr (Or.inr (List.mem_singleton.mpr rfl))))
    have e84 : mi_a h 84 za.toNat = mi_a h0 84 za.toNat := me_a (k := 84) i2 hS0 rfl rfl
    have e85 : mx_b h 85 za.toNat = mx_b h0 85 za.toNat := me_b (k := 85) i2 hS0 rfl rfl
    have e81 : mx_b h 81 F = mx_b h0 81 F := me_b (k := 81) i2 hS0 rfl rfl
    have e66 : mi_a h 66 za.toNat = mi_a hb 66 za.toNat := by rw [me_a (k := 66) i2 hS0 rfl rfl, e.2.2.2.1]
    have go : ∀ (zb : Int64) h1, ab_Fr [] h h1 → zb = (if mi_a h0 84 za.toNat = 1 then mx_b h0 81 F else 0) → me_E (d + 6) 79 69 [some (.inr (.inr 78)), some (.inl (F : Int)), some (.inl za), some (.inl zk), some (.inr (.inl zb)), none] [] h1 Q := fun zb h1 g2 ez => by
      have e0 := me_nil g2
      subst e0
      refine mt_yfdD i1 of oa ok (fun q => by exfalso; omega) (fun q1 q2 => by exfalso; omega) (fun q1 q2 => ⟨by omega, fun h2 s1 s2 s3 => ?_⟩)
      rw [e66]
      refine ih (as ++ [za]) _ (zk + 1) _ _ h2 (by omega) (by omega) (mi_inT _) (fun v q => by cases q; trivial) me_on hal' eas' ⟨s1, i2.trans s3, fun F' hF' a ha => ?_, fun a ha => ?_⟩
      · have b0 := (cv_as_in _ _ (hF.2 F' (by omega)) a ha).1.1
        have na : a.toNat ≠ za.toNat := fun q => by
          have : a = za := by omega
          rw [this] at ha
          have := hE F F' hF70 (by omega) za hz ha
          omega
        rw [s2, if_neg na]
        exact i3 F' hF' a ha
      · by_cases c : a.toNat = za.toNat
        · rw [s2, if_pos c, c, e85, ez]
          rfl
        · rcases List.mem_append.mp ha with ha | ha
          · rw [s2, if_neg c]
            exact i4 a ha
          · rw [List.mem_singleton.mp ha] at c
            exact absurd rfl c
    refine mt_yfdC i1 of oa ok o4 o5 ?_ ?_ ?_ ?_ ?_ ?_ ?_ ?_ ?_ ?_ ?_ ?_ ?_ ?_ ?_ ?_ ?_ ?_
    · intro c1; exfalso; omega
    · intro c1; exfalso; omega
    · intro c1; exfalso; omega
    · intro c1; exfalso; omega
    · intro c1; exfalso; omega
    · intro c1; exfalso; omega
    · intro c1 c2; exfalso; omega
    · intro c1 c2; exfalso; omega
    · intro c1 c2; exfalso; omega
    · intro c1 c2; exfalso; omega
    · intro c1 c2; exfalso; omega
    · intro c1 c2; exfalso; omega
    · intro c1 c2 c3; exfalso; rw [eF, e64] at c3; omega
    · intro c1 c2 c3 c4; exfalso; omega
    · intro c1 c2 c3 c4 c5; exfalso; omega
    · intro c1 c2 c3 c4 c5 c6; exfalso; omega
    · intro c1 c2 c3 c4 c5 c6 c7
      exact ⟨by omega, fun h1 g1 g2 => go _ h1 g2 (by rw [← e84, if_neg c7]; rfl)⟩
    · intro c1 c2 c3 c4 c5 c6 c7
      exact ⟨by omega, fun h1 g1 g2 => go _ h1 g2 (by rw [← e84, if_pos c7]; exact e81)⟩
theorem fd_forms (hS0 : ab_Sh sx_sk h0) (e : cv_eq hb h0) (hF : cv_F hb U) (hE : cv_E hb) : ∀ (c F : Nat) (q2 q3 q4 q5 : Option mi_V) (h : sm_H), F + c = 70 → (∀ v, q2 = some v → mi_ok v) → (∀ v, q3 = some v → mi_ok v) → (∀ v, q4 = some v → mi_ok v) → (∀ v, q5 = some v → mi_ok v) → fd_I hb h0 F [] h → me_E (d + 6) 79 2 [some (.inr (.inr 78)), some (.inl (F : Int)), q2, q3, q4, q5] [] h (fd_Q hb h0) := by
  intro c
  induction c with
  | zero =>
    intro F q2 q3 q4 q5 h hc o2 o3 o4 o5 hI
    have of : mi_in (F : Int) := ⟨by omega, by omega⟩
    refine mt_yfdB hI.1 of o2 o3 o4 o5 (fun c1 h1 g1 g2 => ?_) (fun c1 c2 => by exfalso; omega) (fun c1 c2 => by exfalso; omega)
    have e0 := me_nil g2
    subst e0
    exact ⟨rfl, hI.1, hI.2.1, fun F' hF' a ha => hI.2.2.1 F' (by omega) a ha⟩
  | succ c ih =>
    intro F q2 q3 q4 q5 h hc o2 o3 o4 o5 hI
    have of : mi_in (F : Int) := ⟨by omega, by omega⟩
    refine mt_yfdB hI.1 of o2 o3 o4 o5 (fun c1 => by exfalso; omega) (fun c1 c2 => by exfalso; omega) (fun c1 c2 => ⟨by omega, fun h1 g1 g2 => ?_⟩)
    have e0 := me_nil g2
    subst e0
    have e63 : mi_a h1 63 ((F : Int)).toNat = mi_a hb 63 F := by
      show mi_a h1 63 F = _
      rw [me_a (k := 63) hI.2.1 hS0 rfl rfl, e.1]
    rw [e63]
    refine fd_alts (F := F) hS0 e hF hE (by omega) (fun h2 za zk q4 q5 oa ok o4 o5 hI2 => ?_) (cv_n hb F) [] _ 0 q4 q5 h1 (by omega) (by decide) (mi_inT _) o4 o5 (hF.2 F (by omega)) rfl hI
    refine ih (F + 1) _ _ q4 q5 h2 (by omega) (me_oi oa) (me_oi ok) o4 o5 ⟨hI2.1, hI2.2.1, fun F' hF' a ha => ?_, fun a ha => by cases ha⟩
    by_cases cF : F' = F
    · rw [cF] at ha ⊢
      exact hI2.2.2.2 a ha
    · exact hI2.2.2.1 F' (by omega) a ha
theorem me_findDirectors (hS0 : ab_Sh sx_sk h0) (e : cv_eq hb h0) (hF : cv_F hb U) (hE : cv_E hb) : me_E (d + 6) 79 0 [some (.inr (.inr 78)), none, none, none, none, none] [] h0 (fd_Q hb h0) := by
  refine mt_yfdA hS0 (fun h1 g1 g2 => ?_)
  have e0 := me_nil g2
  subst e0
  exact fd_forms hS0 e hF hE 70 0 none none none none h1 rfl me_on me_on me_on me_on ⟨hS0, ab_Fr.refl, fun F' hF' => by omega, fun a ha => by cases ha⟩
end FDR
