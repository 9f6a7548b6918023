/-! the class's Sets: startsFrom, spreadInto -/
theorem tb_and (x y : Int64) (b : Nat) : tb (x &&& y) b = (tb x b && tb y b) := by
  unfold tb
  rw [Int64.toBitVec_and, BitVec.getLsbD_and]
theorem tb_xor (x y : Int64) (b : Nat) : tb (x ^^^ y) b = (tb x b ^^ tb y b) := by
  unfold tb
  rw [Int64.toBitVec_xor, BitVec.getLsbD_xor]
theorem tb_ge {x : Int64} {b : Nat} (h : 64 ≤ b) : tb x b = false := BitVec.getLsbD_of_ge _ _ h
theorem tb_m1 {b : Nat} (h : b < 64) : tb (Int64.ofNat 18446744073709551615) b = true := by
  unfold tb
  rw [show (Int64.ofNat 18446744073709551615).toBitVec = BitVec.allOnes 64 from rfl, BitVec.getLsbD_allOnes]
  exact decide_eq_true h
theorem an_0 {x y : Int64} : x &&& (y ^^^ Int64.ofNat 18446744073709551615) = Int64.ofNat 0 ↔ tl x y := by
  constructor
  · intro h b q
    by_cases hb : b < 64
    · have e : tb (x &&& (y ^^^ Int64.ofNat 18446744073709551615)) b = tb (Int64.ofNat 0) b := by rw [h]
      rw [tb_and, tb_xor, tb_m1 hb, q, show tb (Int64.ofNat 0) b = false from tb_0 b] at e
      cases k : tb y b
      · rw [k] at e; exact absurd e (by decide)
      · rfl
    · rw [tb_ge (by omega)] at q
      exact absurd q (by decide)
  · intro h
    refine tb_ext (fun b => ?_)
    rw [tb_and, tb_xor, show tb (Int64.ofNat 0) b = false from tb_0 b]
    by_cases hb : b < 64
    · rw [tb_m1 hb]
      have := h b
      cases k1 : tb x b
      · rfl
      · rw [this k1]; rfl
    · rw [tb_ge (x := x) (by omega)]
      rfl
theorem tl_orr {x y : Int64} (h : tl y x) : x ||| y = x := tl_anti (tl_or (tl_refl _) h) (tl_l _ _)
theorem cv_row_fuel {h : sm_H} {U : Int} (hU : cv_u h U) : ∀ (N M : Nat) (u : Int), (u = -1 ∨ (0 ≤ u ∧ u < U)) → (u ≠ -1 → U - u ≤ N ∧ U - u ≤ M) → cv_row h N u = cv_row h M u := by
  intro N
  induction N with
  | zero =>
    intro M u hu hn
    by_cases c : u = -1
    · cases M with
      | zero => rfl
      | succ M => rw [cv_row_c, if_pos c]; rfl
    · have := hu.resolve_left c
      have := hn c
      exfalso
      omega
  | succ N ih =>
    intro M u hu hn
    by_cases c : u = -1
    · cases M with
      | zero => rw [cv_row_c, if_pos c]; rfl
      | succ M => rw [cv_row_c, cv_row_c, if_pos c, if_pos c]
    · have u01 := hu.resolve_left c
      have := hn c
      cases M with
      | zero => exfalso; omega
      | succ M =>
        have w := (hU.2 u u01.1 u01.2).1
        rw [cv_row_c, cv_row_c, if_neg c, if_neg c, ih M _ (by omega) (fun q => by omega)]
section SFI
variable {d : Nat} {hb : sm_H} {U : Int} {X : sp_X}
/-- the parts' void and starts are those of X -/
def pt_all (hb : sm_H) (X : sp_X) (h : sm_H) (row : List Int) : Prop := ∀ u ∈ row, pt_ok (cv_p hb) X h u.toNat
theorem sf_loop {h : sm_H} {zf : Int} {zx : Int64} (hSb : ab_Sh sx_sk hb) (hU : cv_u hb U) (h01 : sp_01 70 X) (e : cv_eq hb h) (hS : ab_Sh sx_sk h) (of : mi_in zf) : ∀ (N : Nat) (ze zp zn : Int) (zs : Int64), (N : Int) = 60 - zn → 0 ≤ zn → (ze = 0 ∨ ze = 1) → (zp = -1 ∨ (zn ≤ zp ∧ zp < U)) → pt_all hb X h (cv_row hb N zp) → me_E (d + 4) 78 12 [some (.inr (.inr 78)), some (.inl zf), some (.inr (.inl zx)), none, some (.inr (.inl zs)), none, some (.inl ze), some (.inl zp), some (.inl zn)] [] h (fun w h' => h' = h ∧ w = some (.inr (.inl (if ze ≠ 0 then zs ||| sk_r X zx ((cv_row hb N zp).map (cv_p hb)) else zs)))) := by
  have hU60 := hU.1
  have out : ∀ (ze zp zn : Int) (zs : Int64) (us : List sp_P), (ze = 0 ∨ ze = 1) → mi_in zp → mi_in zn → (ze = 0 ∨ us = []) → me_E (d + 4) 78 72 [some (.inr (.inr 78)), some (.inl zf), some (.inr (.inl zx)), none, some (.inr (.inl zs)), none, some (.inl ze), some (.inl zp), some (.inl zn)] [] h (fun w h' => h' = h ∧ w = some (.inr (.inl (if ze ≠ 0 then zs ||| sk_r X zx us else zs)))) := by
    intro ze zp zn zs us e01 op on hr
    refine mt_sfD hS of ⟨by omega, by omega⟩ op on ?_ ?_
    · intro c1 h1 g1 g2
      exact ⟨me_nil g2, by rw [if_neg (fun q => q c1)]⟩
    · intro c1 h1 g1 g2
      refine ⟨me_nil g2, ?_⟩
      rw [if_pos c1, hr.resolve_left c1]
      all_goals rfl
  intro N
  induction N with
  | zero =>
    intro ze zp zn zs hN n0 e01 hp hpt
    have op : mi_in zp := ⟨by omega, by omega⟩
    have on : mi_in zn := ⟨by omega, by omega⟩
    refine mt_sfB hS of ⟨by omega, by omega⟩ op on ?_ ?_ ?_ ?_ ?_ ?_
    · intro c1 h1 g1 g2
      have e0 := me_nil g2
      subst e0
      exact out ze zp zn zs _ e01 op on (Or.inl c1)
    · intro c1 c2 h1 g1 g2
      have e0 := me_nil g2
      subst e0
      exact out ze zp zn zs _ e01 op on (Or.inr rfl)
    · intro c1 c2 c3; exfalso; omega
    · intro c1 c2 c3; exfalso; omega
    · intro c1 c2 c3; exfalso; omega
    · intro c1 c2 c3; exfalso; omega
  | succ N ih =>
    intro ze zp zn zs hN n0 e01 hp hpt
    have op : mi_in zp := ⟨by omega, by omega⟩
    have on : mi_in zn := ⟨by omega, by omega⟩
    refine mt_sfB hS of ⟨by omega, by omega⟩ op on ?_ ?_ ?_ ?_ ?_ ?_
    · intro c1 h1 g1 g2
      have e0 := me_nil g2
      subst e0
      exact out ze zp zn zs _ e01 op on (Or.inl c1)
    · intro c1 c2 h1 g1 g2
      have e0 := me_nil g2
      subst e0
      refine out ze zp zn zs _ e01 op on (Or.inr ?_)
      rw [cv_row_c, if_pos c2]
      all_goals rfl
    · intro c1 c2 c3; exfalso; omega
    · intro c1 c2 c3 c4; exfalso; omega
    · intro c1 c2 c3 c4 c5; exfalso; omega
    · intro c1 c2 c3 c4 c5
      have p01 : 0 ≤ zp ∧ zp < U := by omega
      obtain ⟨w1, w2, w3⟩ := hU.2 zp p01.1 p01.2
      have er : cv_row hb (N + 1) zp = zp :: cv_row hb N (mi_a hb 71 zp.toNat) := by rw [cv_row_c, if_neg c2]
      rw [er] at hpt ⊢
      obtain ⟨k1, k2⟩ := hpt zp List.mem_cons_self
      have ez : (zp.toNat : Int) = zp := Int.toNat_of_nonneg p01.1
      rw [ez] at k1 k2
      refine ⟨by omega, fun h1 g1 g2 => ?_⟩
      have e0 := me_nil g2
      subst e0
      refine ⟨_, me_mayBePassed (d := d + 1) hS p01.1 (by omega), fun w h2 oww hq => ?_⟩
      obtain ⟨rfl, z, rfl, z01, hz⟩ := hq
      have ie : sp_e X (cv_p hb zp) ↔ z = 1 := by
        rw [hz, e.2.2.2.2.2.2.2, k1]
        unfold sp_e
        have v01 := cv_v01 (zu := zp) h01 w2
        constructor
        · rintro (q | q)
          · refine Or.inl (fun x => q ?_)
            show (if mi_a hb 72 zp.toNat = 0 then (0 : Int) else if mi_a hb 72 zp.toNat = 5 then 1 else 2) = 0
            rw [if_pos x]
          · exact Or.inr (v01.resolve_left q)
        · rintro (q | q)
          · refine Or.inl ?_
            show (if mi_a hb 72 zp.toNat = 0 then (0 : Int) else if mi_a hb 72 zp.toNat = 5 then 1 else 2) ≠ 0
            rw [if_neg q]
            split <;> decide
          · exact Or.inr (by rw [q]; decide)
      refine mt_sfC hS of ⟨by omega, by omega⟩ op on ⟨by omega, by omega⟩ ?_ ?_ ?_
      · intro q1; exfalso; omega
      · intro q1 q2; exfalso; omega
      · intro q1 q2
        refine ⟨by omega, fun h3 g1 g2 => ?_⟩
        have e0 := me_nil g2
        subst e0
        rw [e.2.2.2.2.2.2.1, k2]
        refine (ih z (mi_a hb 71 zp.toNat) (zn + 1) _ (by omega) (by omega) z01 (by omega) (fun u hu => hpt u (List.mem_cons_of_mem _ hu))).imp (fun w h' hq => ⟨hq.1, hq.2.trans ?_⟩)
        rw [if_pos c1, List.map_cons]
        rw [sk_r_c]
        by_cases cp : sp_e X (cv_p hb zp)
        · rw [if_pos cp, if_pos (by rw [ie.mp cp]; decide), or_as]
        · rw [if_neg cp, if_neg (fun q => cp (ie.mpr (by omega)))]
theorem me_startsFrom {h : sm_H} {zf : Int} {zx : Int64} (hSb : ab_Sh sx_sk hb) (hU : cv_u hb U) (h01 : sp_01 70 X) (e : cv_eq hb h) (hS : ab_Sh sx_sk h) (hp : zf = -1 ∨ (0 ≤ zf ∧ zf < U)) (hpt : pt_all hb X h (cv_row hb 60 zf)) : me_E (d + 4) 78 0 [some (.inr (.inr 78)), some (.inl zf), some (.inr (.inl zx)), none, none, none, none, none, none] [] h (fun w h' => h' = h ∧ w = some (.inr (.inl (sk_r X zx ((cv_row hb 60 zf).map (cv_p hb)))))) := by
  have hU60 := hU.1
  have of : mi_in zf := ⟨by omega, by omega⟩
  refine mt_sfA hS of (fun h1 g1 g2 => ?_)
  have e0 := me_nil g2
  subst e0
  refine (sf_loop hSb hU h01 e hS of 60 1 zf 0 0 (by decide) (by decide) (Or.inr rfl) hp hpt).imp (fun w h' hq => ⟨hq.1, hq.2.trans ?_⟩)
  rw [if_pos (by decide)]
  congr 3
  exact tb_ext (fun b => by rw [tb_or, tb_0, Bool.false_or])
def si_W : List (Nat × Nat) := [(9999, 10000), (10368, 10369), (11648, 11649)]
def si_Q (X : sp_X) (h : sm_H) (zx : Int64) (us : List sp_P) (w : Option mi_V) (h' : sm_H) : Prop := w = none ∧ ab_Sh sx_sk h' ∧ ab_Fr si_W h h' ∧ mx_b h' 81 = (fun i => mx_b h 81 i ||| sk_c X zx i us) ∧ (mi_f h' 9999 = 0 → mi_f h 9999 = 0 ∧ mx_b h' 81 = mx_b h 81)
theorem si_loop {za : Int} {zx : Int64} (hSb : ab_Sh sx_sk hb) (hU : cv_u hb U) (h01 : sp_01 70 X) (oa : mi_in za) : ∀ (N : Nat) (zp zn : Int) (q6 q7 q8 q9 qa qb : Option mi_V) (h : sm_H), (N : Int) = 60 - zn → 0 ≤ zn → (zp = -1 ∨ (zn ≤ zp ∧ zp < U)) → pt_all hb X h (cv_row hb N zp) → (∀ v, q6 = some v → mi_ok v) → (∀ v, q7 = some v → mi_ok v) → (∀ v, q8 = some v → mi_ok v) → (∀ v, q9 = some v → mi_ok v) → (∀ v, qa = some v → mi_ok v) → (∀ v, qb = some v → mi_ok v) → cv_eq hb h → ab_Sh sx_sk h → me_E (d + 5) 77 16 [some (.inr (.inr 78)), some (.inl za), some (.inr (.inl zx)), none, some (.inl zp), some (.inl zn), q6, q7, q8, q9, qa, qb] [] h (si_Q X h zx ((cv_row hb N zp).map (cv_p hb))) := by
  have hU60 := hU.1
  have out : ∀ h : sm_H, ab_Sh sx_sk h → si_Q X h zx [] none h := fun h hS => ⟨rfl, hS, ab_Fr.refl, funext fun i => (or_0r _).symm, fun q => ⟨q, rfl⟩⟩
  intro N
  induction N with
  | zero =>
    intro zp zn q6 q7 q8 q9 qa qb h hN n0 hp hpt o6 o7 o8 o9 oaa ob e hS
    have op : mi_in zp := ⟨by omega, by omega⟩
    have on : mi_in zn := ⟨by omega, by omega⟩
    refine mt_siB hS oa op on o6 o7 o8 o9 oaa ob ?_ ?_ ?_ ?_ ?_
    · intro c1 h1 g1 g2
      have e0 := me_nil g2
      subst e0
      exact out h1 hS
    · intro c1 c2; exfalso; omega
    · intro c1 c2; exfalso; omega
    · intro c1 c2; exfalso; omega
    · intro c1 c2; exfalso; omega
  | succ N ih =>
    intro zp zn q6 q7 q8 q9 qa qb h hN n0 hp hpt o6 o7 o8 o9 oaa ob e hS
    have op : mi_in zp := ⟨by omega, by omega⟩
    have on : mi_in zn := ⟨by omega, by omega⟩
    refine mt_siB hS oa op on o6 o7 o8 o9 oaa ob ?_ ?_ ?_ ?_ ?_
    · intro c1 h1 g1 g2
      have e0 := me_nil g2
      subst e0
      have er : cv_row hb (N + 1) zp = [] := by rw [cv_row_c, if_pos c1]
      rw [er]
      exact out h1 hS
    · intro c1 c2; exfalso; omega
    · intro c1 c2 c3; exfalso; omega
    · intro c1 c2 c3 c4; exfalso; omega
    · intro c1 c2 c3 c4
      have p01 : 0 ≤ zp ∧ zp < U := by omega
      obtain ⟨w1, w2, w3⟩ := hU.2 zp p01.1 p01.2
      have er : cv_row hb (N + 1) zp = zp :: cv_row hb N (mi_a hb 71 zp.toNat) := by rw [cv_row_c, if_neg c1]
      have ef : cv_row hb N (mi_a hb 71 zp.toNat) = cv_row hb 60 (mi_a hb 71 zp.toNat) := cv_row_fuel hU N 60 _ (by omega) (fun q => by omega)
      rw [er] at hpt ⊢
      have hpr : pt_all hb X h (cv_row hb N (mi_a hb 71 zp.toNat)) := fun u hu => hpt u (List.mem_cons_of_mem _ hu)
      obtain ⟨k1, k2⟩ := hpt zp List.mem_cons_self
      have ez : (zp.toNat : Int) = zp := Int.toNat_of_nonneg p01.1
      rw [ez] at k1 k2
      refine ⟨by omega, fun h1 g1 g2 => ?_⟩
      have e0 := me_nil g2
      subst e0
      have oq : mi_in (mi_a h1 71 zp.toNat) := mi_inT _
      have SF := me_startsFrom (d := d) (zf := mi_a hb 71 zp.toNat) (zx := zx) hSb hU h01 e hS (by omega) (by rw [← ef]; exact hpr)
      rw [← e.2.2.2.2.2.2.1] at SF
      refine ⟨_, SF, fun w h2 oww hq => ?_⟩
      obtain ⟨rfl, rfl⟩ := hq
      rw [e.2.2.2.2.2.2.1, ← ef]
      rw [e.2.2.2.2.2.2.1] at oq
      /- within the part's form -/
      have nx : ∀ (zw : Int64) (h3 : sm_H), zw = sk_i X zx (cv_p hb zp) ((cv_row hb N (mi_a hb 71 zp.toNat)).map (cv_p hb)) → ab_Sh sx_sk h3 → ab_Fr [(11648, 11649)] h2 h3 → ∃ Q1, me_E (d + 4) 71 0 (mi_entry 3 [.inr (.inr 60), .inl zp]) [] h3 Q1 ∧ ∀ w h4, (∀ v, w = some v → mi_ok v) → Q1 w h4 → me_E (d + 5) 77 107 [some (.inr (.inr 78)), some (.inl za), some (.inr (.inl zx)), none, some (.inl zp), some (.inl zn), some (.inl (mi_a hb 71 zp.toNat)), some (.inr (.inl (sk_r X zx ((cv_row hb N (mi_a hb 71 zp.toNat)).map (cv_p hb))))), none, some (.inr (.inl zw)), none, qb] (mi_back w []) h4 (si_Q X h2 zx ((zp :: cv_row hb N (mi_a hb 71 zp.toNat)).map (cv_p hb))) := by
        intro zw h3 ew s1 s2
        refine ⟨_, me_gformIn (d := d + 3) s1 p01.1 (by omega), fun w h4 oww hq => ?_⟩
        obtain ⟨rfl, rfl⟩ := hq
        have e3 : cv_eq hb h4 := by
          have a := cv_eq_fr s2 hS (by rfl)
          exact ⟨a.1.trans e.1, a.2.1.trans e.2.1, a.2.2.1.trans e.2.2.1, a.2.2.2.1.trans e.2.2.2.1, a.2.2.2.2.1.trans e.2.2.2.2.1, a.2.2.2.2.2.1.trans e.2.2.2.2.2.1, a.2.2.2.2.2.2.1.trans e.2.2.2.2.2.2.1, a.2.2.2.2.2.2.2.trans e.2.2.2.2.2.2.2⟩
        have eg : gf_v h4 zp = (cv_p hb zp).1 := by
          show gf_v h4 zp = gf_v hb zp
          unfold gf_v
          rw [e3.2.2.2.2.1, e3.2.2.2.2.2.1]
        rw [eg]
        have g01 : (cv_p hb zp).1 = -1 ∨ (0 ≤ (cv_p hb zp).1 ∧ (cv_p hb zp).1 < 70) := w2
        have og : mi_in (cv_p hb zp).1 := ⟨by omega, by omega⟩
        have a81 : ∀ i, mx_b h4 81 i = mx_b h2 81 i := fun i => me_b (k := 81) s2 hS rfl rfl
        have a99 : mi_f h4 9999 = mi_f h2 9999 := me_f (c := 9999) s2 hS rfl rfl
        have go : ∀ h5, ab_Sh sx_sk h5 → ab_Fr [(9999, 10000), (10368, 10369)] h4 h5 → (∀ i, mx_b h5 81 i = mx_b h2 81 i ||| (if (cv_p hb zp).1 = i then zw else 0)) → (mi_f h5 9999 = 0 → mi_f h2 9999 = 0 ∧ mx_b h5 81 = mx_b h2 81) → me_E (d + 5) 77 16 [some (.inr (.inr 78)), some (.inl za), some (.inr (.inl zx)), none, some (.inl (mi_a hb 71 zp.toNat)), some (.inl (zn + 1)), some (.inl (mi_a hb 71 zp.toNat)), some (.inr (.inl (sk_r X zx ((cv_row hb N (mi_a hb 71 zp.toNat)).map (cv_p hb))))), none, some (.inr (.inl zw)), none, some (.inl (cv_p hb zp).1)] [] h5 (si_Q X h2 zx ((zp :: cv_row hb N (mi_a hb 71 zp.toNat)).map (cv_p hb))) := by
          intro h5 t1 t2 t3 t4
          have F5 : ab_Fr si_W h2 h5 := (s2.wide (fun c hc => ab_swr_ok (by decide) hc)).trans (t2.wide (fun c hc => ab_swr_ok (by decide) hc))
          have a := cv_eq_fr F5 hS (by rfl)
          have e5 : cv_eq hb h5 := ⟨a.1.trans e.1, a.2.1.trans e.2.1, a.2.2.1.trans e.2.2.1, a.2.2.2.1.trans e.2.2.2.1, a.2.2.2.2.1.trans e.2.2.2.2.1, a.2.2.2.2.2.1.trans e.2.2.2.2.2.1, a.2.2.2.2.2.2.1.trans e.2.2.2.2.2.2.1, a.2.2.2.2.2.2.2.trans e.2.2.2.2.2.2.2⟩
          have pt5 : pt_all hb X h5 (cv_row hb N (mi_a hb 71 zp.toNat)) := fun u hu => by
            obtain ⟨x1, x2⟩ := hpr u hu
            exact ⟨(me_a (k := 89) F5 hS rfl rfl).trans x1, (me_b (k := 90) F5 hS rfl rfl).trans x2⟩
          refine (ih (mi_a hb 71 zp.toNat) (zn + 1) _ _ _ _ _ _ h5 (by omega) (by omega) (by omega) pt5 (me_oi oq) (fun v q => by cases q; trivial) me_on (fun v q => by cases q; trivial) me_on (me_oi og) e5 t1).imp (fun w h' hq => ?_)
          obtain ⟨r1, r2, r3, r4, r5⟩ := hq
          refine ⟨r1, r2, F5.trans r3, ?_, fun q => ?_⟩
          · rw [r4, List.map_cons]
            funext i
            show mx_b h5 81 i ||| _ = mx_b h2 81 i ||| sk_c X zx i (_ :: _)
            rw [sk_c_c]
            rw [t3 i, or_as, ew]
          · obtain ⟨x1, x2⟩ := r5 q
            obtain ⟨x3, x4⟩ := t4 x1
            exact ⟨x3, x2.trans x4⟩
        refine mt_siD s1 oa op on oq og ob ?_ ?_ ?_ ?_ ?_ ?_ ?_
        · intro q1
          refine ⟨by omega, fun h5 g1 g2 => ?_⟩
          have e0 := me_nil g2
          subst e0
          refine go h5 s1 ab_Fr.refl (fun i => ?_) (fun q => ⟨a99.symm.trans q, funext a81⟩)
          rw [if_neg (by omega), or_0r]
          exact a81 i
        · intro q1 q2; exfalso; omega
        · intro q1 q2; exfalso; omega
        · intro q1 q2 q3; exfalso; omega
        · intro q1 q2 q3; exfalso; omega
        · intro q1 q2 q3 q4
          refine ⟨by omega, fun h5 g1 g2 => ?_⟩
          have e0 := me_nil g2
          subst e0
          refine go h5 s1 ab_Fr.refl (fun i => ?_) (fun q => ⟨a99.symm.trans q, funext a81⟩)
          by_cases ci : (cv_p hb zp).1 = i
          · have ei : i = (cv_p hb zp).1.toNat := by omega
            rw [if_pos ci]
            have t := an_0.mp (lg_eq.mp q4)
            rw [ei, ← a81, tl_orr t]
          · rw [if_neg ci, or_0r]
            exact a81 i
        · intro q1 q2 q3 q4
          refine ⟨by omega, fun h5 t1 t2 t3 t4 => ?_⟩
          refine go h5 t1 t4 (fun i => ?_) (fun q => by omega)
          rw [t3 i, a81, a81]
          by_cases ci : (cv_p hb zp).1 = i
          · have ei : i = (cv_p hb zp).1.toNat := by omega
            rw [if_pos ci, if_pos ei, ei]
          · have ei : i ≠ (cv_p hb zp).1.toNat := by omega
            rw [if_neg ci, if_neg ei, or_0r]
      have wk : ∀ {A B : Int64}, (cv_p hb zp).2.2.1 = (if mi_a h2 72 zp.toNat = 0 then (0 : Int) else if mi_a h2 72 zp.toNat = 5 then 1 else 2) := by
        intro _ _
        rw [e.2.2.2.2.2.2.2]
        all_goals rfl
      refine mt_siC hS oa op on oq o7 o8 o9 oaa ob ?_ ?_ ?_ ?_
      · intro q1; exfalso; omega
      · intro q1 q2; exfalso; omega
      · intro q1 q2 q3
        refine ⟨by omega, fun h3 s1 s2 s3 => nx _ h3 ?_ s1 s3⟩
        unfold sk_i
        rw [wk (A := 0) (B := 0), if_neg]
        intro q
        by_cases c0 : mi_a h2 72 zp.toNat = 0
        · rw [if_pos c0] at q; exact absurd q (by decide)
        · rw [if_neg c0, if_neg q3] at q; exact absurd q (by decide)
      · intro q1 q2 q3
        refine ⟨by omega, fun h3 s1 s2 s3 => nx _ h3 ?_ s1 s3⟩
        unfold sk_i
        rw [wk (A := 0) (B := 0), if_pos, k2]
        rw [if_neg (by omega), if_pos q3]
theorem me_spreadInto {h : sm_H} {za : Int} {zx : Int64} (hSb : ab_Sh sx_sk hb) (hU : cv_u hb U) (h01 : sp_01 70 X) (a0 : 0 ≤ za) (a1 : za < 66) (hp : mi_a hb 65 za.toNat = -1 ∨ (0 ≤ mi_a hb 65 za.toNat ∧ mi_a hb 65 za.toNat < U)) (hpt : pt_all hb X h (cv_l hb za)) (e : cv_eq hb h) (hS : ab_Sh sx_sk h) : me_E (d + 5) 77 0 [some (.inr (.inr 78)), some (.inl za), some (.inr (.inl zx)), none, none, none, none, none, none, none, none, none] [] h (si_Q X h zx ((cv_l hb za).map (cv_p hb))) := by
  have oa : mi_in za := ⟨by omega, by omega⟩
  refine mt_siA hS oa ?_ ?_ ?_
  · intro c1; exfalso; omega
  · intro c1 c2; exfalso; omega
  · intro c1 c2
    refine ⟨by omega, fun h1 g1 g2 => ?_⟩
    have e0 := me_nil g2
    subst e0
    rw [e.2.2.1]
    exact si_loop hSb hU h01 oa 60 _ 0 none none none none none none h1 (by decide) (by decide) hp hpt me_on me_on me_on me_on me_on me_on e hS
end SFI
