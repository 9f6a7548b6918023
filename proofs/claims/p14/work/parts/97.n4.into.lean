/-! the class's Sets: startsFrom, spreadInto -/
theorem tb_and (x y : Int64) (b : Nat) : tb (x &&& y) b = (tb x b && tb y b) := by
  unfold tb
  rw [Int64.toBitVec_and, BitVec.getLsbD_and]
theorem tb_xor (x y : Int64) (b : Nat) : tb (x ^^^ y) b = (tb x b ^^ tb y b) := by
  unfold tb
  rw [Int64.toBitVec_xor, BitVec.getLsbD_xor]
theorem tb_ge {x : Int64} {b : Nat} (h : 64 ≤ b) : tb x b = false := BitVec.getLsbD_of_ge _ _ h
theorem tb_m1 {b : Nat} (h : b < 64) : tb (Int64.ofNat 18446744073709551615) b = true := by
  unfold tb
  rw [show (Int64.ofNat 18446744073709551615).toBitVec = BitVec.allOnes 64 from rfl, BitVec.getLsbD_allOnes]
  exact decide_eq_true h
theorem an_0 {x y : Int64} : x &&& (y ^^^ Int64.ofNat 18446744073709551615) = Int64.ofNat 0 ↔ tl x y := by
  constructor
  · intro h b q
    by_cases hb : b < 64
    · have e : tb (x &&& (y ^^^ Int64.ofNat 18446744073709551615)) b = tb (Int64.ofNat 0) b := by rw [h]
      rw [tb_and, tb_xor, tb_m1 hb, q, show tb (Int64.ofNat 0) b = false from tb_0 b] at e
      cases k : tb y b
      · rw [k] at e; exact absurd e (by decide)
      · rfl
    · rw [tb_ge (by omega)] at q
      exact absurd q (by decide)
  · intro h
    refine tb_ext (fun b => ?_)
    rw [tb_and, tb_xor, show tb (Int64.ofNat 0) b = false from tb_0 b]
    by_cases hb : b < 64
    · rw [tb_m1 hb]
      have := h b
      cases k1 : tb x b
      · rfl
      · rw [this k1]; rfl
    · rw [tb_ge (x := x) (by omega)]
      rfl
theorem tl_orr {x y : Int64} (h : tl y x) : x ||| y = x := tl_anti (tl_or (tl_refl _) h) (tl_l _ _)
theorem cv_row_fuel {h : sm_H} {U : Int} (hU : cv_u h U) : ∀ (N M : Nat) (u : Int), (u = -1 ∨ (0 ≤ u ∧ u < U)) → (u ≠ -1 → U - u ≤ N ∧ U - u ≤ M) → cv_row h N u = cv_row h M u := by
  intro N
  induction N with
  | zero =>
    intro M u hu hn
    by_cases c : u = -1
    · cases M with
      | zero => rfl
      | succ M => rw [cv_row_c, if_pos c]; rfl
    · have := hu.resolve_left c
      have := hn c
      exfalso
      omega
  | succ N ih =>
    intro M u hu hn
    by_cases c : u = -1
    · cases M with
      | zero => rw [cv_row_c, if_pos c]; rfl
      | succ M => rw [cv_row_c, cv_row_c, if_pos c, if_pos c]
    · have u01 := hu.resolve_left c
      have := hn c
      cases M with
      | zero => exfalso; omega
      | succ M =>
        have w := (hU.2 u u01.1 u01.2).1
        rw [cv_row_c, cv_row_c, if_neg c, if_neg c, ih M _ (by omega) (fun q => by omega)]
section SFI
variable {d : Nat} {hb : sm_H} {U : Int} {X : sp_X}
/-- the parts' void and starts are those of X -/
def pt_all (hb : sm_H) (X : sp_X) (h : sm_H) (row : List Int) : Prop := ∀ u ∈ row, pt_ok (cv_p hb) X h u.toNat
theorem sf_loop {h : sm_H} {zf : Int} {zx : Int64} (hSb : ab_Sh sx_sk hb) (hU : cv_u hb U) (h01 : sp_01 70 X) (e : cv_eq hb h) (hS : ab_Sh sx_sk h) (of : mi_in zf) : ∀ (N : Nat) (ze zp zn : Int) (zs : Int64), (N : Int) = 60 - zn → 0 ≤ zn → (ze = 0 ∨ ze = 1) → (zp = -1 ∨ (zn ≤ zp ∧ zp < U)) → pt_all hb X h (cv_row hb N zp) → me_E (d + 4) 78 12 [some (.inr (.inr 78)), some (.inl zf), some (.inr (.inl zx)), none, some (.inr (.inl zs)), none, some (.inl ze), some (.inl zp), some (.inl zn)] [] h (fun w h' => h' = h ∧ w = some (.inr (.inl (if ze ≠ 0 then zs ||| sk_r X zx ((cv_row hb N zp).map (cv_p hb)) else zs)))) := by
  have hU60 := hU.1
  have out : ∀ (ze zp zn : Int) (zs : Int64) (us : List sp_P), (ze = 0 ∨ ze = 1) → mi_in zp → mi_in zn → (ze = 0 ∨ us = []) → me_E (d + 4) 78 72 [some (.inr (.inr 78)), some (.inl zf), some (.inr (.inl zx)), none, some (.inr (.inl zs)), none, some (.inl ze), some (.inl zp), some (.inl zn)] [] h (fun w h' => h' = h ∧ w = some (.inr (.inl (if ze ≠ 0 then zs ||| sk_r X zx us else zs)))) := by
    intro ze zp zn zs us e01 op on hr
    refine mt_sfD hS of ⟨by omega, by omega⟩ op on ?_ ?_
    · intro c1 h1 g1 g2
      exact ⟨me_nil g2, by rw [if_neg (fun q => q c1)]⟩
    · intro c1 h1 g1 g2
      refine ⟨me_nil g2, ?_⟩
      rw [if_pos c1, hr.resolve_left c1]
      all_goals rfl
  intro N
  induction N with
  | zero =>
    intro ze zp zn zs hN n0 e01 hp hpt
    have op : mi_in zp := ⟨by omega, by omega⟩
    have on : mi_in zn := ⟨by omega, by omega⟩
    refine mt_sfB hS of ⟨by omega, by omega⟩ op on ?_ ?_ ?_ ?_ ?_ ?_
    · intro c1 h1 g1 g2
      have e0 := me_nil g2
      subst e0
      exact out ze zp zn zs _ e01 op on (Or.inl c1)
    · intro c1 c2 h1 g1 g2
      have e0 := me_nil g2
      subst e0
      exact out ze zp zn zs _ e01 op on (Or.inr rfl)
    · intro c1 c2 c3; exfalso; omega
    · intro c1 c2 c3; exfalso; omega
    · intro c1 c2 c3; exfalso; omega
    · intro c1 c2 c3; exfalso; omega
  | succ N ih =>
    intro ze zp zn zs hN n0 e01 hp hpt
    have op : mi_in zp := ⟨by omega, by omega⟩
    have on : mi_in zn := ⟨by omega, by omega⟩
    refine mt_sfB hS of ⟨by omega, by omega⟩ op on ?_ ?_ ?_ ?_ ?_ ?_
    · intro c1 h1 g1 g2
      have e0 := me_nil g2
      subst e0
      exact out ze zp zn zs _ e01 op on (Or.inl c1)
    · intro c1 c2 h1 g1 g2
      have e0 := me_nil g2
      subst e0
      refine out ze zp zn zs _ e01 op on (Or.inr ?_)
      rw [cv_row_c, if_pos c2]
      all_goals rfl
    · intro c1 c2 c3; exfalso; omega
    · intro c1 c2 c3 c4; exfalso; omega
    · intro c1 c2 c3 c4 c5; exfalso; omega
    · intro c1 c2 c3 c4 c5
      have p01 : 0 ≤ zp ∧ zp < U := by omega
      obtain ⟨w1, w2, w3⟩ := hU.2 zp p01.1 p01.2
      have er : cv_row hb (N + 1) zp = zp :: cv_row hb N (mi_a hb 71 zp.toNat) := by rw [cv_row_c, if_neg c2]
      rw [er] at hpt ⊢
      obtain ⟨k1, k2⟩ := hpt zp List.mem_cons_self
      have ez : (zp.toNat : Int) = zp := Int.toNat_of_nonneg p01.1
      rw [ez] at k1 k2
      refine ⟨by omega, fun h1 g1 g2 => ?_⟩
      have e0 := me_nil g2
      subst e0
      refine ⟨_, me_mayBePassed (d := d + 1) hS p01.1 (by omega), fun w h2 oww hq => ?_⟩
      obtain ⟨rfl, z, rfl, z01, hz⟩ := hq
      have ie : sp_e X (cv_p hb zp) ↔ z = 1 := by
        rw [hz, e.2.2.2.2.2.2.2, k1]
        unfold sp_e
        have v01 := cv_v01 (zu := zp) h01 w2
        constructor
        · rintro (q | q)
          · refine Or.inl (fun x => q ?_)
            show (if mi_a hb 72 zp.toNat = 0 then (0 : Int) else if mi_a hb 72 zp.toNat = 5 then 1 else 2) = 0
            rw [if_pos x]
          · exact Or.inr (v01.resolve_left q)
        · rintro (q | q)
          · refine Or.inl ?_
            show (if mi_a hb 72 zp.toNat = 0 then (0 : Int) else if mi_a hb 72 zp.toNat = 5 then 1 else 2) ≠ 0
            rw [if_neg q]
            split <;> decide
          · exact Or.inr (by rw [q]; decide)
      refine mt_sfC hS of ⟨by omega, by omega⟩ op on ⟨by omega, by omega⟩ ?_ ?_ ?_
      · intro q1; exfalso; omega
      · intro q1 q2; exfalso; omega
      · intro q1 q2
        refine ⟨by omega, fun h3 g1 g2 => ?_⟩
        have e0 := me_nil g2
        subst e0
        rw [e.2.2.2.2.2.2.1, k2]
        refine (ih z (mi_a hb 71 zp.toNat) (zn + 1) _ (by omega) (by omega) z01 (by omega) (fun u hu => hpt u (List.mem_cons_of_mem _ hu))).imp (fun w h' hq => ⟨hq.1, hq.2.trans ?_⟩)
        rw [if_pos c1, List.map_cons]
        rw [sk_r_c]
        by_cases cp : sp_e X (cv_p hb zp)
        · rw [if_pos cp, if_pos (by rw [ie.mp cp]; decide), or_as]
        · rw [if_neg cp, if_neg (fun q => cp (ie.mpr (by omega)))]
theorem me_startsFrom {h : sm_H} {zf : Int} {zx : Int64} (hSb : ab_Sh sx_sk hb) (hU : cv_u hb U) (h01 : sp_01 70 X) (e : cv_eq hb h) (hS : ab_Sh sx_sk h) (hp : zf = -1 ∨ (0 ≤ zf ∧ zf < U)) (hpt : pt_all hb X h (cv_row hb 60 zf)) : me_E (d + 4) 78 0 [some (.inr (.inr 78)), some (.inl zf), some (.inr (.inl zx)), none, none, none, none, none, none] [] h (fun w h' => h' = h ∧ w = some (.inr (.inl (sk_r X zx ((cv_row hb 60 zf).map (cv_p hb)))))) := by
  have hU60 := hU.1
  have of : mi_in zf := ⟨by omega, by omega⟩
  refine mt_sfA hS of (fun h1 g1 g2 => ?_)
  have e0 := me_nil g2
  subst e0
  refine (sf_loop hSb hU h01 e hS of 60 1 zf 0 0 (by decide) (by decide) (Or.inr rfl) hp hpt).imp (fun w h' hq => ⟨hq.1, hq.2.trans ?_⟩)
  rw [if_pos (by decide)]
  congr 3
  exact tb_ext (fun b => by rw [tb_or, tb_0, Bool.false_or])
def si_W : List (Nat × Nat) := [(9999, 10000), (10368, 10369), (11648, 11649)]
def si_Q (X : sp_X) (h : sm_H) (zx : Int64) (us : List sp_P) (w : Option mi_V) (h' : sm_H) : Prop := w = none ∧ ab_Sh sx_sk h' ∧ ab_Fr si_W h h' ∧ mx_b h' 81 = (fun i => mx_b h 81 i ||| sk_c X zx i us) ∧ (mi_f h' 9999 = 0 → mi_f h 9999 = 0 ∧ mx_b h' 81 = mx_b h 81)
theorem si_loop {za : Int} {zx : Int64} (hSb : ab_Sh sx_sk hb) (hU : cv_u hb U) (h01 : sp_01 70 X) (oa : mi_in za) : ∀ (N : Nat) (zp zn : Int) (q6 q7 q8 q9 qa qb : Option mi_V) (h : sm_H), (N : Int) = 60 - zn → 0 ≤ zn → (zp = -1 ∨ (zn ≤ zp ∧ zp < U)) → pt_all hb X h (cv_row hb N zp) → (∀ v, q6 = some v → mi_ok v) → (∀ v, q7 = some v → mi_ok v) → (∀ v, q8 = some v → mi_ok v) → (∀ v, q9 = some v → mi_ok v) → (∀ v, qa = some v → mi_ok v) → (∀ v, qb = some v → mi_ok v) → cv_eq hb h → ab_Sh sx_sk h → me_E (d + 5) 77 16 [some (.inr (.inr 78)), some (.inl za), some (.inr (.inl zx)), none, some (.inl zp), some (.inl zn), q6, q7, q8, q9, qa, qb] [] h (si_Q X h zx ((cv_row hb N zp).map (cv_p hb))) := by
  have hU60 := hU.1
  have out : ∀ h : sm_H, ab_Sh sx_sk h → si_Q X h zx [] none h := fun h hS => ⟨rfl, hS, ab_Fr.refl, funext fun i => (or_0r _).symm, fun q => ⟨q, rfl⟩⟩
  intro N
  induction N with
  | zero =>
    intro zp zn q6 q7 q8 q9 qa qb h hN n0 hp hpt o6 o7 o8 o9 oaa ob e hS
    have op : mi_in zp := ⟨by omega, by omega⟩
    have on : mi_in zn := ⟨by omega, by omega⟩
    refine mt_siB hS oa op on o6 o7 o8 o9 oaa ob ?_ ?_ ?_ ?_ ?_
    · intro c1 h1 g1 g2
      have e0 := me_nil g2
      subst e0
      exact out h1 hS
    · intro c1 c2; exfalso; omega
    · intro c1 c2; exfalso; omega
    · intro c1 c2; exfalso; omega
    · intro c1 c2; exfalso; omega
  | succ N ih =>
    intro zp zn q6 q7 q8 q9 qa qb h hN n0 hp hpt o6 o7 o8 o9 oaa ob e hS
    have op : mi_in zp := ⟨by omega, by omega⟩
    have on : mi_in zn := ⟨by omega, by omega⟩
    refine mt_siB hS oa op on o6 o7 o8 o9 oaa ob ?_ ?_ ?_ ?_ ?_
    · intro c1 h1 g1 g2
      have e0 := me_nil g2
      subst e0
      have er : cv_row hb (N + 1) zp = [] := by rw [cv_row_c, if_pos c1]
      rw [er]
      exact out h1 hS
    · intro c1 c2; exfalso; omega
    · intro c1 c2 c3; exfalso; omega
    · intro c1 c2 c3 c4; exfalso; omega
    · intro c1 c2 c3 c4
      have p01 : 0 ≤ zp ∧ zp < U := by omega
      obtain ⟨w1, w2, w3⟩ := hU.2 zp p01.1 p01.2
      have er : cv_row hb (N + 1) zp = zp :: cv_row hb N (mi_a hb 71 zp.toNat) := by rw [cv_row_c, if_neg c1]
      have ef : cv_row hb N (mi_a hb 71 zp.toNat) = cv_row hb 60 (mi_a hb 71 zp.toNat) := cv_row_fuel hU N 60 _ (by omega) (fun q => by omega)
      rw [er] at hpt ⊢
      have hpr : pt_all hb X h (cv_row hb N (mi_a hb 71 zp.toNat)) := fun u hu => hpt u (List.mem_cons_of_mem _ hu)
      obtain ⟨k1, k2⟩ := hpt zp List.mem_cons_self
      have ez : (zp.toNat : Int) = zp := Int.toNat_of_nonneg p01.1
      rw [ez] at k1 k2
      refine ⟨by omega, fun h1 g1 g2 => ?_⟩
      have e0 := me_nil g2
      subst e0
      have oq : mi_in (mi_a h1 71 zp.toNat) := mi_inT _
      have SF := me_startsFrom (d := d) (zf := mi_a hb 71 zp.toNat) (zx := zx) hSb hU h01 e hS (by omega) (by rw [← ef]; exact hpr)
      rw [← e.2.2.2.2.2.2.1] at SF
      refine ⟨_, SF, fun w h2 oww hq => ?_⟩
      obtain ⟨rfl, rfl⟩ := hq
      rw [e.2.2.2.2.2.2.1, ← ef]
      rw [e.2.2.2.2.2.2.1] at oq
      /- within the part's form -/
      have nx : ∀ (zw : Int64) (h3 : sm_H), zw = sk_i X zx (cv_p hb zp) ((cv_row hb N (mi_a hb 71 zp.toNat)).map (cv_p hb)) → ab_Sh sx_sk h3 → ab_Fr [(11648, 11649)] h2 h3 → ∃ Q1, me_E (d + 4) 71 0 (mi_entry 3 [.inr (.inr 60), .inl zp]) [] h3 Q1 ∧ ∀ w h4, (∀ v, w = some v → mi_ok v) → Q1 w h4 → me_E (d + 5) 77 107 [some (.inr (.inr 78)), some (.inl za), some (.inr (.inl zx)), none, some (.inl zp), some (.inl zn), some (.inl (mi_a hb 71 zp.toNat)), some (.inr (.inl (sk_r X zx ((cv_row hb N (mi_a hb 71 zp.toNat)).map (cv_p hb))))), none, some (.inr (.inl zw)), none, qb] (mi_back w []) h4 (si_Q X h2 zx ((zp :: cv_row hb N (mi_a hb 71 zp.toNat)).map (cv_p hb))) := by
        intro zw h3 ew s1 s2
        refine ⟨_, me_gformIn (d := d + 3) s1 p01.1 (by omega), fun w h4 oww hq => ?_⟩
        obtain ⟨rfl, rfl⟩ := hq
        have e3 : cv_eq hb h4 := by
          have a := cv_eq_fr s2 hS (by rfl)
          exact ⟨a.1.trans e.1, a.2.1.trans e.2.1, a.2.2.1.trans e.2.2.1, a.2.2.2.1.trans e.2.2.2.1, a.2.2.2.2.1.trans e.2.2.2.2.1, a.2.2.2.2.2.1.trans e.2.2.2.2.2.1, a.2.2.2.2.2.2.1.trans e.2.2.2.2.2.2.1, a.2.2.2.2.2.2.2.trans e.2.2.2.2.2.2.2⟩
        have eg : gf_v h4 zp = (cv_p hb zp).1 := by
          show gf_v h4 zp = gf_v hb zp
          unfold gf_v
          rw [e3.2.2.2.2.1, e3.2.2.2.2.2.1]
        rw [eg]
        have g01 : (cv_p hb zp).1 = -1 ∨ (0 ≤ (cv_p hb zp).1 ∧ (cv_p hb zp).1 < 70) := w2
        have og : mi_in (cv_p hb zp).1 := ⟨by omega, by omega⟩
        have a81 : ∀ i, mx_b h4 81 i = mx_b h2 81 i := fun i => me_b (k := 81) s2 hS rfl rfl
        have a99 : mi_f h4 9999 = mi_f h2 9999 := me_f (c := 9999) s2 hS rfl rfl
        have go : ∀ h5, ab_Sh sx_sk h5 → ab_Fr [(9999, 10000), (10368, 10369)] h4 h5 → (∀ i, mx_b h5 81 i = mx_b h2 81 i ||| (if (cv_p hb zp).1 = i then zw else 0)) → (mi_f h5 9999 = 0 → mi_f h2 9999 = 0 ∧ mx_b h5 81 = mx_b h2 81) → me_E (d + 5) 77 16 [some (.inr (.inr 78)), some (.inl za), some (.inr (.inl zx)), none, some (.inl (mi_a hb 71 zp.toNat)), some (.inl (zn + 1)), some (.inl (mi_a hb 71 zp.toNat)), some (.inr (.inl (sk_r X zx ((cv_row hb N (mi_a hb 71 zp.toNat)).map (cv_p hb))))), none, some (.inr (.inl zw)), none, some (.inl (cv_p hb zp).1)] [] h5 (si_Q X h2 zx ((zp :: cv_row hb N (mi_a hb 71 zp.toNat)).map (cv_p hb))) := by
          intro h5 t1 t2 t3 t4
          have F5 : ab_Fr si_W h2 h5 := (s2.wide (fun c hc => ab_swr_ok (by decide) hc)).trans (t2.wide (fun c hc => ab_swr_ok (by decide) hc))
          have a := cv_eq_fr F5 hS (by rfl)
          have e5 : cv_eq hb h5 := ⟨a.1.trans e.1, a.2.1.trans e.2.1, a.2.2.1.trans e.2.2.1, a.2.2.2.1.trans e.2.2.2.1, a.2.2.2.2.1.trans e.2.2.2.2.1, a.2.2.2.2.2.1.trans e.2.2.2.2.2.1, a.2.2.2.2.2.2.1.trans e.2.2.2.2.2.2.1, a.2.2.2.2.2.2.2.trans e.2.2.2.2.2.2.2⟩
          have pt5 : pt_all hb X h5 (cv_row hb N (mi_a hb 71 zp.toNat)) := fun u hu => by
            obtain ⟨x1, x2⟩ := hpr u hu
            exact ⟨(me_a (k := 89) F5 hS rfl rfl).trans x1, (me_b (k := 90) F5 hS rfl rfl).trans x2⟩
          refine (ih (mi_a hb 71 zp.toNat) (zn + 1) _ _ _ _ _ _ h5 (by omega) (by omega) (by omega) pt5 (me_oi oq) (fun v q => by cases q; trivial) me_on (fun v q => by cases q; trivial) me_on (me_oi og) e5 t1).imp (fun w h' hq => ?_)
          obtain ⟨r1, r2, r3, r4, r5⟩ := hq
          refine ⟨r1, r2, F5.trans r3, ?_, fun q => ?_⟩
          · rw [r4, List.map_cons]
            funext i
            show mx_b h5 81 i ||| _ = mx_b h2 81 i ||| sk_c X zx i (_ :: _)
            rw [sk_c_c]
            rw [t3 i, or_as, ew]
          · obtain ⟨x1, x2⟩ := r5 q
            obtain ⟨x3, x4⟩ := t4 x1
            exact ⟨x3, x2.trans x4⟩
        refine mt_siD s1 oa op on oq og ob ?_ ?_ ?_ ?_ ?_ ?_ ?_
        · intro q1
          refine ⟨by omega, fun h5 g1 g2 => ?_⟩
          have e0 := me_nil g2
          subst e0
          refine go h5 s1 ab_Fr.refl (fun i => ?_) (fun q => ⟨a99.symm.trans q, funext a81⟩)
          rw [if_neg (by omega), or_0r]
          exact a81 i
        · intro q1 q2; exfalso; omega
        · intro q1 q2; exfalso; omega
        · intro q1 q2 q3; exfalso; omega
        · intro q1 q2 q3; exfalso; omega
        · intro q1 q2 q3 q4
          refine ⟨by omega, fun h5 g1 g2 => ?_⟩
          have e0 := me_nil g2
          subst e0
          refine go h5 s1 ab_Fr.refl (fun i => ?_) (fun q => ⟨a99.symm.trans q, funext a81⟩)
          by_cases ci : (cv_p hb zp).1 = i
          · have ei : i = (cv_p hb zp).1.toNat := by omega
            rw [if_pos ci]
            have t := an_0.mp (lg_eq.mp q4)
            rw [ei, ← a81, tl_orr t]
          · rw [if_neg ci, or_0r]
            exact a81 i
        · intro q1 q2 q3 q4
          refine ⟨by omega, fun h5 t1 t2 t3 t4 => ?_⟩
          refine go h5 t1 t4 (fun i => ?_) (fun q => by omega)
          rw [t3 i, a81, a81]
          by_cases ci : (cv_p hb zp).1 = i
          · have ei : i = (cv_p hb zp).1.toNat := by omega
            rw [if_pos ci, if_pos ei, ei]
          · have ei : i ≠ (cv_p hb zp).1.toNat := by omega
            rw [if_neg ci, if_neg ei, or_0r]
      have wk : ∀ {A B : Int64}, (cv_p hb zp).2.2.1 = (if mi_a h2 72 zp.toNat = 0 then (0 : Int) else if mi_a h2 72 zp.toNat = 5 then 1 else 2) := by
        intro _ _
        rw [e.2.2.2.2.2.2.2]
        all_goals rfl
      refine mt_siC hS oa op on oq o7 o8 o9 oaa ob ?_ ?_ ?_ ?_
      · intro q1; exfalso; omega
      · intro q1 q2; exfalso; omega
      · intro q1 q2 q3
        refine ⟨by omega, fun h3 s1 s2 s3 => nx _ h3 ?_ s1 s3⟩
        unfold sk_i
        rw [wk (A := 0) (B := 0), if_neg]
        intro q
        by_cases c0 : mi_a h2 72 zp.toNat = 0
        · rw [if_pos c0] at q; exact absurd q (by decide)
        · rw [if_neg c0, if_neg q3] at q; exact absurd q (by decide)
      · intro q1 q2 q3
        refine ⟨by omega, fun h3 s1 s2 s3 => nx _ h3 ?_ s1 s3⟩
        unfold sk_i
        rw [wk (A := 0) (B := 0), if_pos, k2]
        rw [if_neg (by omega), if_pos q3]
theorem me_spreadInto {h : sm_H} {za : Int} {zx : Int64} (hSb : ab_Sh sx_sk hb) (hU : cv_u hb U) (h01 : sp_01 70 X) (a0 : 0 ≤ za) (a1 : za < 66) (hp : mi_a hb 65 za.toNat = -1 ∨ (0 ≤ mi_a hb 65 za.toNat ∧ mi_a hb 65 za.toNat < U)) (hpt : pt_all hb X h (cv_l hb za)) (e : cv_eq hb h) (hS : ab_Sh sx_sk h) : me_E (d + 5) 77 0 [some (.inr (.inr 78)), some (.inl za), some (.inr (.inl zx)), none, none, none, none, none, none, none, none, none] [] h (si_Q X h zx ((cv_l hb za).map (cv_p hb))) := by
  have oa : mi_in za := ⟨by omega, by omega⟩
  refine mt_siA hS oa ?_ ?_ ?_
  · intro c1; exfalso; omega
  · intro c1 c2; exfalso; omega
  · intro c1 c2
    refine ⟨by omega, fun h1 g1 g2 => ?_⟩
    have e0 := me_nil g2
    subst e0
    rw [e.2.2.1]
    exact si_loop hSb hU h01 oa 60 _ 0 none none none none none none h1 (by decide) (by decide) hp hpt me_on me_on me_on me_on me_on me_on e hS
end SFI
/-! the class's Sets: spreadFollows, work -/
theorem cv_eq.trans {h h1 h2 : sm_H} (e : cv_eq h h1) (a : cv_eq h1 h2) : cv_eq h h2 := ⟨a.1.trans e.1, a.2.1.trans e.2.1, a.2.2.1.trans e.2.2.1, a.2.2.2.1.trans e.2.2.2.1, a.2.2.2.2.1.trans e.2.2.2.2.1, a.2.2.2.2.2.1.trans e.2.2.2.2.2.1, a.2.2.2.2.2.2.1.trans e.2.2.2.2.2.2.1, a.2.2.2.2.2.2.2.trans e.2.2.2.2.2.2.2⟩
def sv_Q (hb : sm_H) (X : sp_X) (W0 : sp_F) (h : sm_H) (w : Option mi_V) (h' : sm_H) : Prop := w = none ∧ ab_Sh sx_sk h' ∧ ab_Fr si_W h h' ∧ ∃ j, mx_b h' 81 = sk_k X (GC hb) 70 W0 j ∧ sw_sol X 70 (GC hb) (sk_k X (GC hb) 70 W0 j)
section SVF
variable {d : Nat} {hb h0 : sm_H} {U : Int} {X : sp_X} {W0 : sp_F}
/-- what does not change here -/
def sv_B (hb : sm_H) (X : sp_X) (h0 h : sm_H) : Prop := ab_Sh sx_sk h ∧ ab_Fr si_W h0 h ∧ cv_eq hb h ∧ ∀ F : Nat, F < 70 → ∀ u : Nat, cv_of hb F u → pt_ok (cv_p hb) X h u
theorem sv_B_fr {h h' : sm_H} (hB : sv_B hb X h0 h) (hS : ab_Sh sx_sk h') (hF : ab_Fr si_W h h') : sv_B hb X h0 h' := by
  obtain ⟨b1, b2, b3, b4⟩ := hB
  refine ⟨hS, b2.trans hF, b3.trans (cv_eq_fr hF b1 rfl), fun F hF' u hu => ?_⟩
  obtain ⟨x1, x2⟩ := b4 F hF' u hu
  exact ⟨(me_a (k := 89) hF b1 rfl rfl).trans x1, (me_b (k := 90) hF b1 rfl rfl).trans x2⟩
/-- the alternatives of form zf -/
theorem sv_alts {zn : Int} {F : Nat} {Q : Option mi_V → sm_H → Prop} {Wk WN : sp_F} (hSb : ab_Sh sx_sk hb) (hF : cv_F hb U) (h01 : sp_01 70 X) (hF70 : F < 70) (on : mi_in zn) (K : ∀ h zf za zk, zf = (F : Int) + 1 → mi_in za → mi_in zk → sv_B hb X h0 h → sk_p X (GC hb) (69 - F) (F + 1) (mx_b h 81) = WN → (mi_f h 9999 = 0 → mx_b h 81 = Wk) → me_E (d + 6) 76 27 [some (.inr (.inr 78)), some (.inl zn), some (.inl zf), some (.inl za), some (.inl zk)] [] h Q) : ∀ (m : Nat) (za zk : Int) (h : sm_H), (m : Int) + zk = cv_n hb F → 0 ≤ zk → mi_in za → cv_al hb U m za → (∀ a ∈ cv_as hb m za, ∀ u ∈ cv_l hb a, cv_of hb F u) → sv_B hb X h0 h → sk_p X (GC hb) (69 - F) (F + 1) (sk_f X F ((cv_as hb m za).map (fun a => (cv_l hb a).map (cv_p hb))) (mx_b h 81)) = WN → (mi_f h 9999 = 0 → mx_b h 81 = Wk) → me_E (d + 6) 76 48 [some (.inr (.inr 78)), some (.inl zn), some (.inl (F : Int)), some (.inl za), some (.inl zk)] [] h Q := by
  have cn : cv_n hb F ≤ 6 := by unfold cv_n; omega
  have of : mi_in (F : Int) := ⟨by omega, by omega⟩
  intro m
  induction m with
  | zero =>
    intro za zk h hN k0 oa hal hof hB hW hc
    have ok : mi_in zk := ⟨by omega, by omega⟩
    obtain ⟨b1, b2, b3, b4⟩ := id hB
    have e64 : mi_a h 64 ((F : Int)).toNat = mi_a hb 64 F := by rw [b3.2.1]; rfl
    refine mt_svD b1 on of oa ok ?_ ?_ ?_ ?_ ?_ ?_ ?_ ?_ ?_
    · intro c1; exfalso; omega
    · intro c1; exfalso; omega
    · intro c1; exfalso; omega
    · intro c1 c2; exfalso; omega
    · intro c1 c2; exfalso; omega
    · intro c1 c2; exfalso; omega
    · intro c1 c2 c3
      refine ⟨by omega, fun h1 g1 g2 => ?_⟩
      have e0 := me_nil g2
      subst e0
      exact K h1 _ _ _ rfl oa ok hB hW hc
    · intro c1 c2 c3 c4
      refine ⟨by omega, fun h1 g1 g2 => ?_⟩
      have e0 := me_nil g2
      subst e0
      exact K h1 _ _ _ rfl oa ok hB hW hc
    · intro c1 c2 c3 c4
      exfalso
      rw [e64] at c3
      unfold cv_n at hN
      omega
  | succ m ih =>
    intro za zk h hN k0 oa hal hof hB hW hc
    have ok : mi_in zk := ⟨by omega, by omega⟩
    obtain ⟨b1, b2, b3, b4⟩ := id hB
    obtain ⟨⟨a0, a1⟩, hp, hal'⟩ := hal
    have e64 : mi_a h 64 ((F : Int)).toNat = mi_a hb 64 F := by rw [b3.2.1]; rfl
    have lt : zk < mi_a hb 64 F := by unfold cv_n at hN; omega
    refine mt_svD b1 on of oa ok ?_ ?_ ?_ ?_ ?_ ?_ ?_ ?_ ?_
    · intro c1; exfalso; omega
    · intro c1; exfalso; omega
    · intro c1; exfalso; omega
    · intro c1 c2; exfalso; omega
    · intro c1 c2; exfalso; omega
    · intro c1 c2; exfalso; omega
    · intro c1 c2 c3
      exfalso
      rw [e64] at c3
      omega
    · intro c1 c2 c3 c4; exfalso; omega
    · intro c1 c2 c3 c4
      refine ⟨by omega, fun h1 g1 g2 => ?_⟩
      have e0 := me_nil g2
      subst e0
      refine ⟨_, me_spreadInto (d := d) (hb := hb) (X := X) (U := U) (zx := mx_b h1 81 F) hSb hF.1 h01 a0 a1 hp (fun u hu => ?_) b3 b1, fun w h2 oww hq => ?_⟩
      · have ho := hof za List.mem_cons_self u hu
        have u0 := (cv_of_in hF hF70 ho).1
        refine b4 F hF70 u.toNat ?_
        rw [Int.toNat_of_nonneg u0]
        exact ho
      · obtain ⟨rfl, r2, r3, r4, r5⟩ := hq
        have B2 := sv_B_fr hB r2 r3
        refine mt_svE r2 on of oa ok ?_ ?_ ?_
        · intro q1; exfalso; omega
        · intro q1 q2; exfalso; omega
        · intro q1 q2
          refine ⟨by omega, fun h3 g1 g2 => ?_⟩
          have e0 := me_nil g2
          subst e0
          rw [B2.2.2.1.2.2.2.1]
          refine ih _ (zk + 1) h3 (by omega) (by omega) (mi_inT _) hal' (fun a ha u hu => hof a (List.mem_cons_of_mem _ ha) u hu) B2 ?_ (fun q => ?_)
          · rw [r4]
            exact hW
          · obtain ⟨x1, x2⟩ := r5 q
            exact x2.trans (hc x1)
theorem sv_forms {zn : Int} {Q : Option mi_V → sm_H → Prop} {Wk WN : sp_F} (hSb : ab_Sh sx_sk hb) (hF : cv_F hb U) (h01 : sp_01 70 X) (on : mi_in zn) (on1 : mi_in (zn + 1)) (K : ∀ h q2 q3 q4, (∀ v, q2 = some v → mi_ok v) → (∀ v, q3 = some v → mi_ok v) → (∀ v, q4 = some v → mi_ok v) → sv_B hb X h0 h → mx_b h 81 = WN → (mi_f h 9999 = 0 → mx_b h 81 = Wk) → me_E (d + 6) 76 7 [some (.inr (.inr 78)), some (.inl (zn + 1)), q2, q3, q4] [] h Q) : ∀ (c F : Nat) (q3 q4 : Option mi_V) (h : sm_H), F + c = 70 → (∀ v, q3 = some v → mi_ok v) → (∀ v, q4 = some v → mi_ok v) → sv_B hb X h0 h → sk_p X (GC hb) c F (mx_b h 81) = WN → (mi_f h 9999 = 0 → mx_b h 81 = Wk) → me_E (d + 6) 76 27 [some (.inr (.inr 78)), some (.inl zn), some (.inl (F : Int)), q3, q4] [] h Q := by
  intro c
  induction c with
  | zero =>
    intro F q3 q4 h hc o3 o4 hB hW hk
    have of : mi_in (F : Int) := ⟨by omega, by omega⟩
    refine mt_svC hB.1 on of o3 o4 ?_ ?_ ?_
    · intro c1
      refine ⟨on1, fun h1 g1 g2 => ?_⟩
      have e0 := me_nil g2
      subst e0
      exact K h1 _ _ _ (me_oi of) o3 o4 hB hW hk
    · intro c1 c2; exfalso; omega
    · intro c1 c2; exfalso; omega
  | succ c ih =>
    intro F q3 q4 h hc o3 o4 hB hW hk
    have of : mi_in (F : Int) := ⟨by omega, by omega⟩
    refine mt_svC hB.1 on of o3 o4 ?_ ?_ ?_
    · intro c1; exfalso; omega
    · intro c1 c2; exfalso; omega
    · intro c1 c2
      refine ⟨by omega, fun h1 g1 g2 => ?_⟩
      have e0 := me_nil g2
      subst e0
      have e63 : mi_a h1 63 ((F : Int)).toNat = mi_a hb 63 F := by rw [hB.2.2.1.1]; rfl
      rw [e63]
      have ec : 69 - F = c := by omega
      refine sv_alts (F := F) (WN := WN) (Wk := Wk) hSb hF h01 (by omega) on (fun h2 zf za zk ez oa ok hB2 hW2 hk2 => ?_) (cv_n hb F) _ 0 h1 (by omega) (by decide) (mi_inT _) (hF.2 F (by omega)) (fun a ha u hu => ⟨a, ha, hu⟩) hB (by rw [ec]; exact hW) hk
      rw [ez]
      rw [ec] at hW2
      exact ih (F + 1) _ _ h2 (by omega) (me_oi oa) (me_oi ok) hB2 hW2 hk2
theorem sv_loop (hSb : ab_Sh sx_sk hb) (hF : cv_F hb U) (h01 : sp_01 70 X) : ∀ (N k : Nat) (q2 q3 q4 : Option mi_V) (h : sm_H), 100000 - k < N → k ≤ 100000 → (∀ v, q2 = some v → mi_ok v) → (∀ v, q3 = some v → mi_ok v) → (∀ v, q4 = some v → mi_ok v) → sv_B hb X h0 h → mx_b h 81 = sk_k X (GC hb) 70 W0 k → (k = 0 → mi_f h 9999 ≠ 0) → (∀ j, k = j + 1 → mi_f h 9999 = 0 → sk_k X (GC hb) 70 W0 (j + 1) = sk_k X (GC hb) 70 W0 j) → me_E (d + 6) 76 7 [some (.inr (.inr 78)), some (.inl (k : Int)), q2, q3, q4] [] h (sv_Q hb X W0 h0) := by
  intro N
  induction N with
  | zero => intro k q2 q3 q4 h hN; exfalso; omega
  | succ N ih =>
    intro k q2 q3 q4 h hN hk o2 o3 o4 hB hW hc0 hc1
    have on : mi_in (k : Int) := ⟨by omega, by omega⟩
    refine mt_svB hB.1 on o2 o3 o4 ?_ ?_ ?_
    · intro b c1 h1 g1 g2
      have e0 := me_nil g2
      subst e0
      cases k with
      | zero => exact absurd c1 (hc0 rfl)
      | succ j =>
        have E := hc1 j rfl c1
        exact ⟨rfl, hB.1, hB.2.1, j, hW.trans E, sk_sol (fun i hi => congrFun E i)⟩
    · intro b c1 c2 h1 g1 g2
      have e0 := me_nil g2
      subst e0
      have hk0 : k = 100000 := by omega
      exact ⟨rfl, hB.1, hB.2.1, k, hW, sk_sol (sk_k_stop (by omega))⟩
    · intro b c1 c2 h1 s1 s2 s3
      have F1 : ab_Fr si_W h h1 := s3.wide (fun c hc => ab_swr_ok (by decide) hc)
      have B1 := sv_B_fr hB s1 F1
      have e81 : mx_b h1 81 = mx_b h 81 := funext fun i => me_b (k := 81) s3 hB.1 rfl rfl
      refine sv_forms (WN := sk_k X (GC hb) 70 W0 (k + 1)) (Wk := sk_k X (GC hb) 70 W0 k) hSb hF h01 on ⟨by omega, by omega⟩ (fun h2 q2 q3 q4 o2 o3 o4 hB2 hW2 hk2 => ?_) 70 0 _ _ h1 rfl o3 o4 B1 ?_ (fun _ => by rw [e81]; exact hW)
      · have ek : (k : Int) + 1 = ((k + 1 : Nat) : Int) := by omega
        rw [ek]
        refine ih (k + 1) _ _ _ h2 (by omega) (by omega) o2 o3 o4 hB2 hW2 (fun q => by omega) (fun j ej q => ?_)
        have : j = k := by omega
        subst this
        exact hW2.symm.trans (hk2 q)
      · rw [e81, hW]
        rfl
theorem me_spreadFollows {h : sm_H} (hSb : ab_Sh sx_sk hb) (hF : cv_F hb U) (h01 : sp_01 70 X) (hS : ab_Sh sx_sk h) (e : cv_eq hb h) (hpt : ∀ F : Nat, F < 70 → ∀ u : Nat, cv_of hb F u → pt_ok (cv_p hb) X h u) : me_E (d + 6) 76 0 [some (.inr (.inr 78)), none, none, none, none] [] h (sv_Q hb X (mx_b h 81) h) := by
  refine mt_svA hS (fun h1 s1 s2 s3 => ?_)
  have F1 : ab_Fr si_W h h1 := s3.wide (fun c hc => ab_swr_ok (by decide) hc)
  exact sv_loop hSb hF h01 100001 0 none none none h1 (by decide) (by decide) me_on me_on me_on (sv_B_fr ⟨hS, ab_Fr.refl, e, hpt⟩ s1 F1) (funext fun i => me_b (k := 81) s3 hS rfl rfl) (fun _ => by omega) (fun j ej => by omega)
end SVF
def wk_W : List (Nat × Nat) := [(9999, 11777)]
/-- the sets are worked out -/
def wk_Qc (hb : sm_H) (w : Option mi_V) (h' : sm_H) : Prop := w = none ∧ ab_Sh sx_sk h' ∧ ab_Fr wk_W hb h' ∧ ∃ (j k : Nat) (W0 : sp_F), sp_eq 70 (cX h') (sps_k (GC hb) 70 j) ∧ sp_fix 70 (GC hb) (sps_k (GC hb) 70 j) ∧ (∀ i : Nat, i < 70 → W0 i = if i = 0 then 1 else 0) ∧ (∀ i : Nat, mx_b h' 81 i = sk_k (sps_k (GC hb) 70 j) (GC hb) 70 W0 k i) ∧ sw_sol (sps_k (GC hb) 70 j) 70 (GC hb) (sk_k (sps_k (GC hb) 70 j) (GC hb) 70 W0 k)
section WRK
variable {d : Nat} {hb : sm_H} {U : Int}
theorem me_setsRest {h : sm_H} (hS : ab_Sh sx_sk h) : (me_E (d + 6) 79 0 (mi_entry 6 [.inr (.inr 78)]) [] h (fun w h' => w = none ∧ ab_Sh sx_sk h' ∧ ab_Fr [(11264, 11265)] h h')) ∧ me_E (d + 6) 80 0 (mi_entry 4 [.inr (.inr 78)]) [] h (fun w h' => w = none ∧ ab_Sh sx_sk h' ∧ ab_Fr [(11776, 11777)] h h') := by
  refine ⟨?_, ?_⟩
  · have := me_abs (as := [.inr (.inr 78)]) xo_124 rfl hS ⟨rfl, trivial⟩ (fun e he => by cases he) (by decide)
    refine (me_E.deep (d' := d + 6) this (by show 1 ≤ d + 6; omega)).imp (fun w h' hq => ?_)
    obtain ⟨q1, q2, p, hp, q3, -⟩ := hq
    refine ⟨?_, q1, q2⟩
    exact q3
  · have := me_abs (as := [.inr (.inr 78)]) xo_128 rfl hS ⟨rfl, trivial⟩ (fun e he => by cases he) (by decide)
    refine (me_E.deep (d' := d + 6) this (by show 2 ≤ d + 6; omega)).imp (fun w h' hq => ?_)
    obtain ⟨q1, q2, p, hp, q3, -⟩ := hq
    refine ⟨?_, q1, q2⟩
    exact q3
theorem wk_loop (hSb : ab_Sh sx_sk hb) (hF : cv_F hb U) : ∀ (N : Nat) (zf : Int) (h : sm_H), 70 - zf < N → 0 ≤ zf → zf ≤ 70 → ab_Sh sx_sk h → ab_Fr [(10112, 10625)] hb h → (∀ i : Nat, (i : Int) < zf → mi_a h 79 i = 0 ∧ mx_b h 80 i = 0 ∧ mi_a h 82 i = 1000 ∧ mx_b h 81 i = if i = 0 then 1 else 0) → me_E (d + 7) 65 2 [some (.inr (.inr 78)), some (.inl zf)] [] h (wk_Qc hb) := by
  intro N
  induction N with
  | zero => intro zf h hN z0 z1; exfalso; omega
  | succ N ih =>
    intro zf h hN z0 z1 hS hFr hv
    have of : mi_in zf := ⟨by omega, by omega⟩
    refine mt_wkB hS of ?_ ?_ ?_
    · intro c1 h1 g1 g2
      have e0 := me_nil g2
      subst e0
      have e : cv_eq hb h1 := cv_eq_fr hFr hSb rfl
      have hF1 := e.F hF
      have h70 : sp_eq 70 (cX h1) sp_bot := fun F hF' => by
        obtain ⟨x1, x2, x3, -⟩ := hv F (by omega)
        exact ⟨x1, x2, x3⟩
      refine ⟨_, me_spreadStarts (d := d) (hb := h1) hS hF1 hS ab_Fr.refl h70, fun w h2 oww hq => ?_⟩
      obtain ⟨rfl, s1, s2, j, s3, s4, s5⟩ := hq
      rw [e.g] at s3 s4 s5
      rw [e.p] at s5
      have F2 : ab_Fr wk_W hb h2 := (hFr.wide (fun c hc => ab_swr_ok (by decide) hc)).trans (s2.wide (fun c hc => ab_swr_ok (by decide) hc))
      have e2 : cv_eq hb h2 := cv_eq_fr F2 hSb rfl
      refine mt_wkC s1 of (fun h3 g1 g2 => ?_)
      have e0 := me_nil g2
      subst e0
      refine ⟨_, me_spreadFollows (d := d) (hb := hb) (X := sps_k (GC hb) 70 j) hSb hF (sps_k_01 j) s1 e2 (fun F hF' u hu => s5 F hF' u (e.of.mpr hu)), fun w h4 oww hq => ?_⟩
      obtain ⟨rfl, t1, t2, k, t3, t4⟩ := hq
      have F4 : ab_Fr wk_W hb h4 := F2.trans (t2.wide (fun c hc => ab_swr_ok (by decide) hc))
      have eX4 : cX h4 = cX h3 := cX_fr t2 s1 rfl
      refine mt_wkD t1 of (fun h5 g1 g2 => ?_)
      have e0 := me_nil g2
      subst e0
      refine ⟨_, (me_setsRest (d := d) t1).1, fun w h6 oww hq => ?_⟩
      obtain ⟨rfl, u1, u2⟩ := hq
      refine mt_wkE u1 of (fun h7 g1 g2 => ?_)
      have e0 := me_nil g2
      subst e0
      refine ⟨_, (me_setsRest (d := d) u1).2, fun w h8 oww hq => ?_⟩
      obtain ⟨rfl, v1, v2⟩ := hq
      refine mt_wkF v1 of (fun h9 g1 g2 => ?_)
      have e0 := me_nil g2
      subst e0
      have F9 : ab_Fr wk_W hb h9 := (F4.trans (u2.wide (fun c hc => ab_swr_ok (by decide) hc))).trans (v2.wide (fun c hc => ab_swr_ok (by decide) hc))
      have eX9 : cX h9 = cX h3 := ((cX_fr v2 u1 rfl).trans (cX_fr u2 t1 rfl)).trans eX4
      refine ⟨rfl, v1, F9, j, k, mx_b h3 81, by rw [eX9]; exact s3, s4, fun i hi => ?_, fun i => ?_, t4⟩
      · rw [me_b (k := 81) s2 hS rfl rfl]
        exact (hv i (by omega)).2.2.2
      · rw [me_b (k := 81) v2 u1 rfl rfl, me_b (k := 81) u2 t1 rfl rfl, t3]
    · intro c1 c2; exfalso; omega
    · intro c1 c2
      refine ⟨by omega, fun h1 s1 s2 s3 s4 => ?_⟩
      have T43 : ∀ h2, ab_Sh sx_sk h2 → (∀ i, mx_b h2 81 i = if i = zf.toNat then (if zf = 0 then 1 else 0) else mx_b h1 81 i) → ab_Fr [(10368, 10369)] h1 h2 → me_E (d + 7) 65 43 [some (.inr (.inr 78)), some (.inl zf)] [] h2 (wk_Qc hb) := by
        intro h2 t1 t2 t3
        refine mt_wkB3 t1 of ?_ ?_ ?_
        · intro k1; exfalso; omega
        · intro k1 k2; exfalso; omega
        · intro k1 k2
          refine ⟨by omega, fun h3 u1 u2 u3 u4 => ih (zf + 1) h3 (by omega) (by omega) (by omega) u1 (((hFr.trans (s4.wide (fun c hc => ab_swr_ok (by decide) hc))).trans (t3.wide (fun c hc => ab_swr_ok (by decide) hc))).trans (u4.wide (fun c hc => ab_swr_ok (by decide) hc))) (fun i hi => ?_)⟩
          have a79 : mi_a h3 79 i = mi_a h1 79 i := (me_a (k := 79) u4 t1 rfl rfl).trans (me_a (k := 79) t3 s1 rfl rfl)
          have a80 : mx_b h3 80 i = mx_b h1 80 i := (me_b (k := 80) u4 t1 rfl rfl).trans (me_b (k := 80) t3 s1 rfl rfl)
          have a81 : mx_b h3 81 i = mx_b h2 81 i := me_b (k := 81) u4 t1 rfl rfl
          have b81 : mx_b h1 81 i = mx_b h 81 i := me_b (k := 81) s4 hS rfl rfl
          have b82 : mi_a h2 82 i = mi_a h 82 i := (me_a (k := 82) t3 s1 rfl rfl).trans (me_a (k := 82) s4 hS rfl rfl)
          rw [a79, a80, a81, s2, s3, t2, u2, b81, b82]
          by_cases ci : i = zf.toNat
          · rw [if_pos ci, if_pos ci, if_pos ci, if_pos ci]
            refine ⟨rfl, rfl, rfl, ?_⟩
            by_cases z : zf = 0
            · rw [if_pos z, if_pos (by omega)]
            · rw [if_neg z, if_neg (by omega)]
          · rw [if_neg ci, if_neg ci, if_neg ci, if_neg ci]
            exact hv i (by omega)
      refine mt_wkB2 s1 of ?_ ?_ ?_ ?_ ?_ ?_
      · intro k1 k2; exfalso; omega
      · intro k1 k2 k3; exfalso; omega
      · intro k1 k2 k3
        refine ⟨by omega, fun h2 t1 t2 t3 => T43 h2 t1 (fun i => ?_) t3⟩
        rw [t2 i, if_neg k1]
        all_goals rfl
      · intro k1 k2; exfalso; omega
      · intro k1 k2 k3; exfalso; omega
      · intro k1 k2 k3
        refine ⟨by omega, fun h2 t1 t2 t3 => T43 h2 t1 (fun i => ?_) t3⟩
        rw [t2 i, if_pos k1]
        all_goals rfl
theorem me_setsWork (hSb : ab_Sh sx_sk hb) (hF : cv_F hb U) : me_E (d + 7) 65 0 [some (.inr (.inr 78)), none] [] hb (wk_Qc hb) := by
  refine mt_wkA hSb (fun h1 g1 g2 => ?_)
  have e0 := me_nil g2
  subst e0
  exact wk_loop hSb hF 71 0 h1 (by decide) (by decide) (by decide) hSb ab_Fr.refl (fun i hi => by omega)
end WRK
/-! segments of the reference: isVoid -/
set_option maxRecDepth 20000 in
theorem mp_ivA_0 (h : sm_H) (d : Nat) (zu : Int) : mj_path [(198, (2, 4, sb_198))] sx_sk h 7 [1] (d, 198, 0, [some (.inr (.inr 109)), some (.inl (zu))], [], [], []) = some ((d, 198, 23, [some (.inr (.inr 109)), some (.inl (zu))], [.inl ((1 : Int))], [], []), [0 ≤ zu ∧ zu < 60, ((0 : Int)) < (mi_a h 122 (Int.toNat zu))]) := rfl
theorem mi_tab_ivA_0 : ∀ e ∈ ([(198, (2, 4, sb_198))] : mi_T), sc_P e.1 = some e.2 := mi_tb mi_P198 (mi_tb_e)
set_option maxRecDepth 20000 in
theorem ms_ivA_0 {h : sm_H} {d : Nat} {Q : Option mi_V → sm_H → Prop} {zu : Int} (hS : ab_Sh sx_sk h) (ok_zu : mi_in zu) (ho : (0 ≤ zu ∧ zu < 60) ∧ (((0 : Int)) < (mi_a h 122 (Int.toNat zu))) ∧ (((1 : Int)) = 0 ∨ ((1 : Int)) = 1)) (kon : ∀ h1, me_W [] h h1 → Q (some (.inl ((1 : Int)))) h1) : me_E (d) 198 0 [some (.inr (.inr 109)), some (.inl (zu))] [] h Q := mf_seg (mp_ivA_0 h d zu) (mi_tab_ivA_0) hS (mi_okL_c (trivial) (mi_okL_c (ok_zu) (mi_okL_e))) (mi_okS_e) (mi_al (ho.1) (mi_al (ho.2.1) (mi_al_e))) (fun h1 W _ hst => mf_ret (M := (2, 4, sb_198)) rfl rfl rfl hst (mi_al (ho.2.2) mi_al_e) (kon h1 W))
set_option maxRecDepth 20000 in
theorem mp_ivA_1 (h : sm_H) (d : Nat) (zu : Int) : mj_path [(198, (2, 4, sb_198))] sx_sk h 11 [0, 1] (d, 198, 0, [some (.inr (.inr 109)), some (.inl (zu))], [], [], []) = some ((d, 198, 23, [some (.inr (.inr 109)), some (.inl (zu))], [.inl ((0 : Int))], [], []), [0 ≤ zu ∧ zu < 60, (mi_a h 122 (Int.toNat zu)) ≤ ((0 : Int)), 0 ≤ zu ∧ zu < 60, (mi_a h 131 (Int.toNat zu)) = ((0 : Int))]) := rfl
theorem mi_tab_ivA_1 : ∀ e ∈ ([(198, (2, 4, sb_198))] : mi_T), sc_P e.1 = some e.2 := mi_tb mi_P198 (mi_tb_e)
set_option maxRecDepth 20000 in
theorem ms_ivA_1 {h : sm_H} {d : Nat} {Q : Option mi_V → sm_H → Prop} {zu : Int} (hS : ab_Sh sx_sk h) (ok_zu : mi_in zu) (ho : (0 ≤ zu ∧ zu < 60) ∧ ((mi_a h 122 (Int.toNat zu)) ≤ ((0 : Int))) ∧ (0 ≤ zu ∧ zu < 60) ∧ ((mi_a h 131 (Int.toNat zu)) = ((0 : Int))) ∧ (((0 : Int)) = 0 ∨ ((0 : Int)) = 1)) (kon : ∀ h1, me_W [] h h1 → Q (some (.inl ((0 : Int)))) h1) : me_E (d) 198 0 [some (.inr (.inr 109)), some (.inl (zu))] [] h Q := mf_seg (mp_ivA_1 h d zu) (mi_tab_ivA_1) hS (mi_okL_c (trivial) (mi_okL_c (ok_zu) (mi_okL_e))) (mi_okS_e) (mi_al (ho.1) (mi_al (ho.2.1) (mi_al (ho.2.2.1) (mi_al (ho.2.2.2.1) (mi_al_e))))) (fun h1 W _ hst => mf_ret (M := (2, 4, sb_198)) rfl rfl rfl hst (mi_al (ho.2.2.2.2) mi_al_e) (kon h1 W))
set_option maxRecDepth 20000 in
theorem mp_ivA_2 (h : sm_H) (d : Nat) (zu : Int) : mj_path [(198, (2, 4, sb_198))] sx_sk h 12 [0, 0] (d, 198, 0, [some (.inr (.inr 109)), some (.inl (zu))], [], [], []) = some ((d, 198, 23, [some (.inr (.inr 109)), some (.inl (zu))], [.inl ((1 : Int))], [], []), [0 ≤ zu ∧ zu < 60, (mi_a h 122 (Int.toNat zu)) ≤ ((0 : Int)), 0 ≤ zu ∧ zu < 60, (mi_a h 131 (Int.toNat zu)) ≠ ((0 : Int))]) := rfl
theorem mi_tab_ivA_2 : ∀ e ∈ ([(198, (2, 4, sb_198))] : mi_T), sc_P e.1 = some e.2 := mi_tb mi_P198 (mi_tb_e)
set_option maxRecDepth 20000 in
theorem ms_ivA_2 {h : sm_H} {d : Nat} {Q : Option mi_V → sm_H → Prop} {zu : Int} (hS : ab_Sh sx_sk h) (ok_zu : mi_in zu) (ho : (0 ≤ zu ∧ zu < 60) ∧ ((mi_a h 122 (Int.toNat zu)) ≤ ((0 : Int))) ∧ (0 ≤ zu ∧ zu < 60) ∧ ((mi_a h 131 (Int.toNat zu)) ≠ ((0 : Int))) ∧ (((1 : Int)) = 0 ∨ ((1 : Int)) = 1)) (kon : ∀ h1, me_W [] h h1 → Q (some (.inl ((1 : Int)))) h1) : me_E (d) 198 0 [some (.inr (.inr 109)), some (.inl (zu))] [] h Q := mf_seg (mp_ivA_2 h d zu) (mi_tab_ivA_2) hS (mi_okL_c (trivial) (mi_okL_c (ok_zu) (mi_okL_e))) (mi_okS_e) (mi_al (ho.1) (mi_al (ho.2.1) (mi_al (ho.2.2.1) (mi_al (ho.2.2.2.1) (mi_al_e))))) (fun h1 W _ hst => mf_ret (M := (2, 4, sb_198)) rfl rfl rfl hst (mi_al (ho.2.2.2.2) mi_al_e) (kon h1 W))
set_option maxRecDepth 20000 in
theorem mt_ivA {h : sm_H} {d : Nat} {Q : Option mi_V → sm_H → Prop} {zu : Int} (hS : ab_Sh sx_sk h) (ok_zu : mi_in zu) (k0 : (((0 : Int)) < (mi_a h 122 (Int.toNat zu))) → ((0 ≤ zu ∧ zu < 60)) ∧ (∀ h1, ab_Sh sx_sk h1 → ab_Fr [] h h1 → Q (some (.inl ((1 : Int)))) h1)) (k1 : ((mi_a h 122 (Int.toNat zu)) ≤ ((0 : Int))) → ((mi_a h 131 (Int.toNat zu)) = ((0 : Int))) → ((0 ≤ zu ∧ zu < 60)) ∧ (∀ h1, ab_Sh sx_sk h1 → ab_Fr [] h h1 → Q (some (.inl ((0 : Int)))) h1)) (k2 : ((mi_a h 122 (Int.toNat zu)) ≤ ((0 : Int))) → ((mi_a h 131 (Int.toNat zu)) ≠ ((0 : Int))) → ((0 ≤ zu ∧ zu < 60)) ∧ (∀ h1, ab_Sh sx_sk h1 → ab_Fr [] h h1 → Q (some (.inl ((1 : Int)))) h1)) : me_E (d) 198 0 [some (.inr (.inr 109)), some (.inl (zu))] [] h Q := Or.elim (mi_em .gt ((mi_a h 122 (Int.toNat zu))) (((0 : Int)))) (fun c0 => ms_ivA_0 hS ok_zu ⟨(k0 c0).1, c0, (by decide)⟩ (fun h1 W => (k0 c0).2 h1 W.1 (W.2.2.2.2.2 _ rfl))) (fun c0 => Or.elim (mi_em .eq ((mi_a h 131 (Int.toNat zu))) (((0 : Int)))) (fun c1 => ms_ivA_1 hS ok_zu ⟨(k1 c0 c1).1, c0, (k1 c0 c1).1, c1, (by decide)⟩ (fun h1 W => (k1 c0 c1).2 h1 W.1 (W.2.2.2.2.2 _ rfl))) (fun c1 => ms_ivA_2 hS ok_zu ⟨(k2 c0 c1).1, c0, (k2 c0 c1).1, c1, (by decide)⟩ (fun h1 W => (k2 c0 c1).2 h1 W.1 (W.2.2.2.2.2 _ rfl))))
/-! the reference's weigh and alternative, exactly -/
def rv_t (g : wk_g) (u : Int) : Int := if g 119 u.toNat = 10 then g 120 u.toNat else if g 119 u.toNat = 9 then g 114 (g 115 (g 120 u.toNat).toNat).toNat else -1
def rv_p (g : wk_g) (u : Int) : sp_P := (rv_t g u, if g 119 u.toNat = 9 then 1 else 0, if 0 < g 122 u.toNat then (if g 122 u.toNat = 1 then 1 else 2) else 0, pb_v (g 119 u.toNat), pb_s (g 119 u.toNat) (g 120 u.toNat))
def rX (h : sm_H) : sp_X := (mi_a h 133, mx_b h 136, mi_a h 144)
/-- a part's height, repeated or not -/
def rh_p (X : sp_X) (p : sp_P) : Int := if 0 ≤ p.1 then X.2.2 p.1.toNat + p.2.1 else 0
theorem rh_sp {X : sp_X} {p : sp_P} : sp_h X p = if p.2.2.1 ≠ 0 then 0 else rh_p X p := rfl
/-- the reference's rows are the same -/
def rv_eq (h h' : sm_H) : Prop := ∀ r, r ∈ [114, 115, 119, 120, 122, 124, 125, 126, 128, 129, 130] → mi_a h' r = mi_a h r
theorem rv_eq_fr {h h' : sm_H} {wr : List (Nat × Nat)} (hF : ab_Fr wr h h') (hS : ab_Sh sx_sk h) (hw : [114, 115, 119, 120, 122, 124, 125, 126, 128, 129, 130].any (fun r => ab_in wr (r * 128)) = false) : rv_eq h h' := fun r hr => funext fun i => by
  have n := List.any_eq_false.mp hw r hr
  have all : [114, 115, 119, 120, 122, 124, 125, 126, 128, 129, 130].all (fun r => mx_isA sx_sk r || mx_isB sx_sk r) = true := by decide
  exact me_a hF hS (List.all_eq_true.mp all r hr) (by simpa using n)
theorem rv_eq.trans {h h1 h2 : sm_H} (e : rv_eq h h1) (a : rv_eq h1 h2) : rv_eq h h2 := fun r hr => (a r hr).trans (e r hr)
theorem rv_eq.p {h h' : sm_H} (e : rv_eq h h') : rv_p (mi_a h') = rv_p (mi_a h) := by
  funext u
  unfold rv_p rv_t
  rw [e 114 (by decide), e 115 (by decide), e 119 (by decide), e 120 (by decide), e 122 (by decide)]
def wg_W : List (Nat × Nat) := [(16768, 16769), (17152, 17153), (17792, 17793), (18176, 18177)]
def wg_R (h0 : sm_H) (zu : Int) (h : sm_H) (w : Option mi_V) (h' : sm_H) : Prop := w = none ∧ ab_Sh sx_sk h' ∧ ab_Fr wg_W h h' ∧ (∀ i, mi_a h' 131 i = if i = zu.toNat then sp_v (rX h0) (rv_p (mi_a h0) zu) else mi_a h 131 i) ∧ (∀ i, mx_b h' 134 i = if i = zu.toNat then sp_s (rX h0) (rv_p (mi_a h0) zu) else mx_b h 134 i) ∧ ∀ i, mi_a h' 142 i = if i = zu.toNat then rh_p (rX h0) (rv_p (mi_a h0) zu) else mi_a h 142 i
section WGX
variable {d : Nat} {h : sm_H} {zu : Int}
theorem wgx {zf : Int} (hS : ab_Sh sx_sk h) (ef : zf = rv_t (mi_a h) zu) (hP : wg_P zu (mi_a h 119 zu.toNat) zf h) : me_E d 195 49 [some (.inr (.inr 109)), some (.inl zu), some (.inl (mi_a h 119 zu.toNat)), some (.inl zf)] [] h (wg_R h zu h) := by
  obtain ⟨p1, p2, p3, p4, p5⟩ := hP
  have ou : mi_in zu := ⟨by omega, by omega⟩
  have os : mi_in (mi_a h 119 zu.toNat) := mi_inT _
  have of : mi_in zf := by
    rw [ef]
    unfold rv_t
    split
    · exact mi_inT _
    · split
      · exact mi_inT _
      · exact ⟨by decide, by decide⟩
  have P1 : (rv_p (mi_a h) zu).1 = zf := ef.symm
  /- the height -/
  have t181 : ∀ h3, ab_Sh sx_sk h3 → ab_Fr [(16768, 16769), (17152, 17153), (17792, 17793)] h h3 → (∀ i, mi_a h3 131 i = if i = zu.toNat then sp_v (rX h) (rv_p (mi_a h) zu) else mi_a h 131 i) → (∀ i, mx_b h3 134 i = if i = zu.toNat then sp_s (rX h) (rv_p (mi_a h) zu) else mx_b h 134 i) → me_E d 195 181 [some (.inr (.inr 109)), some (.inl zu), some (.inl (mi_a h 119 zu.toNat)), some (.inl zf)] [] h3 (wg_R h zu h) := by
    intro h3 s1 s2 s3 s4
    have e144 : mi_a h3 144 zf.toNat = mi_a h 144 zf.toNat := me_a (k := 144) s2 hS rfl rfl
    have fin : ∀ (z : Int) (h4 : sm_H), z = rh_p (rX h) (rv_p (mi_a h) zu) → ab_Sh sx_sk h4 → (∀ i, mi_a h4 142 i = if i = zu.toNat then z else mi_a h3 142 i) → ab_Fr [(18176, 18177)] h3 h4 → wg_R h zu h none h4 := by
      intro z h4 ez t1 t2 t3
      refine ⟨rfl, t1, (s2.wide (fun c hc => ab_swr_ok (by decide) hc)).trans (t3.wide (fun c hc => ab_swr_ok (by decide) hc)), fun i => (me_a (k := 131) t3 s1 rfl rfl).trans (s3 i), fun i => (me_b (k := 134) t3 s1 rfl rfl).trans (s4 i), fun i => ?_⟩
      rw [t2 i, me_a (k := 142) s2 hS rfl rfl, ez]
    refine mt_wgE s1 ou os of ?_ ?_ ?_
    · intro c1 c2
      refine ⟨by omega, fun h4 t1 t2 t3 => fin _ h4 ?_ t1 t2 t3⟩
      unfold rh_p
      rw [if_neg (c := 0 ≤ (rv_p (mi_a h) zu).1) (by rw [P1]; omega)]
    · intro c1 c2
      have := p3 c2
      refine ⟨by omega, fun h4 t1 t2 t3 => fin _ h4 ?_ t1 t2 t3⟩
      unfold rh_p
      rw [if_pos (c := 0 ≤ (rv_p (mi_a h) zu).1) (by rw [P1]; exact c2), P1, e144]
      show _ = mi_a h 144 zf.toNat + (if mi_a h 119 zu.toNat = 9 then 1 else 0)
      rw [if_neg c1]
      omega
    · intro c1
      have q := p4 c1
      have q3 := p3 q.1
      have b := mi_inT (mx_a h3 144 (Int.toNat zf))
      have b1 : -2147483648 ≤ mi_a h3 144 (Int.toNat zf) := b.1
      rw [e144] at b1 ⊢
      refine ⟨by omega, fun h4 t1 t2 t3 => fin _ h4 ?_ t1 t2 t3⟩
      unfold rh_p
      rw [if_pos (c := 0 ≤ (rv_p (mi_a h) zu).1) (by rw [P1]; exact q.1), P1]
      show _ = mi_a h 144 zf.toNat + (if mi_a h 119 zu.toNat = 9 then 1 else 0)
      rw [if_pos c1]
  have t139 : ∀ h2, ab_Sh sx_sk h2 → ab_Fr [(16768, 16769), (17152, 17153)] h h2 → (∀ i, mi_a h2 131 i = if i = zu.toNat then sp_v (rX h) (rv_p (mi_a h) zu) else mi_a h 131 i) → (∀ i, mx_b h2 134 i = if i = zu.toNat then sp_s (rX h) (rv_p (mi_a h) zu) else mx_b h 134 i) → me_E d 195 139 [some (.inr (.inr 109)), some (.inl zu), some (.inl (mi_a h 119 zu.toNat)), some (.inl zf)] [] h2 (wg_R h zu h) := by
    intro h2 s1 s2 s3 s4
    have e120 : mi_a h2 120 zu.toNat = mi_a h 120 zu.toNat := me_a (k := 120) s2 hS rfl rfl
    have nx : ∀ h3, ab_Sh sx_sk h3 → ab_Fr [(17792, 17793)] h2 h3 → me_E d 195 181 [some (.inr (.inr 109)), some (.inl zu), some (.inl (mi_a h 119 zu.toNat)), some (.inl zf)] [] h3 (wg_R h zu h) := fun h3 t1 t3 => t181 h3 t1 ((s2.wide (fun c hc => ab_swr_ok (by decide) hc)).trans (t3.wide (fun c hc => ab_swr_ok (by decide) hc))) (fun i => (me_a (k := 131) t3 s1 rfl rfl).trans (s3 i)) (fun i => (me_b (k := 134) t3 s1 rfl rfl).trans (s4 i))
    refine mt_wgD s1 ou os of ?_ ?_ ?_
    · intro c1 c2
      exact ⟨by omega, fun h3 t1 t2 t3 => nx h3 t1 t3⟩
    · intro c1 c2
      have := p3 c2
      exact ⟨by omega, fun h3 t1 t2 t3 => nx h3 t1 t3⟩
    · intro c1
      have q := p4 c1
      rw [e120]
      exact ⟨by omega, fun h3 t1 t2 t3 => nx h3 t1 t3⟩
  have t84 : ∀ h1, ab_Sh sx_sk h1 → ab_Fr [(16768, 16769)] h h1 → (∀ i, mi_a h1 131 i = if i = zu.toNat then sp_v (rX h) (rv_p (mi_a h) zu) else mi_a h 131 i) → me_E d 195 84 [some (.inr (.inr 109)), some (.inl zu), some (.inl (mi_a h 119 zu.toNat)), some (.inl zf)] [] h1 (wg_R h zu h) := by
    intro h1 s1 s2 s3
    have e120 : mi_a h1 120 zu.toNat = mi_a h 120 zu.toNat := me_a (k := 120) s2 hS rfl rfl
    have e136 : mx_b h1 136 zf.toNat = mx_b h 136 zf.toNat := me_b (k := 136) s2 hS rfl rfl
    have nx : ∀ (z : Int64) (h2 : sm_H), z = sp_s (rX h) (rv_p (mi_a h) zu) → ab_Sh sx_sk h2 → (∀ i, mx_b h2 134 i = if i = zu.toNat then z else mx_b h1 134 i) → ab_Fr [(17152, 17153)] h1 h2 → me_E d 195 139 [some (.inr (.inr 109)), some (.inl zu), some (.inl (mi_a h 119 zu.toNat)), some (.inl zf)] [] h2 (wg_R h zu h) := fun z h2 ez t1 t2 t3 => t139 h2 t1 ((s2.wide (fun c hc => ab_swr_ok (by decide) hc)).trans (t3.wide (fun c hc => ab_swr_ok (by decide) hc))) (fun i => (me_a (k := 131) t3 s1 rfl rfl).trans (s3 i)) (fun i => by rw [t2 i, me_b (k := 134) s2 hS rfl rfl, ez])
    have neg : zf < 0 → sp_s (rX h) (rv_p (mi_a h) zu) = pb_s (mi_a h 119 zu.toNat) (mi_a h 120 zu.toNat) := fun c => by
      unfold sp_s
      rw [if_neg (c := 0 ≤ (rv_p (mi_a h) zu).1) (by rw [P1]; omega)]
      all_goals rfl
    refine mt_wgC s1 ou os of ?_ ?_ ?_ ?_ ?_
    · intro c1 c2
      refine ⟨by omega, fun h2 t1 t2 t3 => nx _ h2 ?_ t1 t2 t3⟩
      rw [neg c1, c2]
      all_goals rfl
    · intro c1 c2 c3 c4
      refine ⟨by omega, fun h2 t1 t2 t3 => nx _ h2 ?_ t1 t2 t3⟩
      rw [neg c1]
      unfold pb_s
      rw [if_neg c2, if_neg c3, if_neg c4]
    · intro c1 c2 c3 c4
      have := p5 c4
      rw [e120]
      refine ⟨by omega, fun h2 t1 t2 t3 => nx _ h2 ?_ t1 t2 t3⟩
      rw [neg c1]
      unfold pb_s
      rw [if_neg c2, if_neg c3, if_pos c4]
      all_goals rfl
    · intro c1 c2 c3
      refine ⟨by omega, fun h2 t1 t2 t3 => nx _ h2 ?_ t1 t2 t3⟩
      rw [neg c1, c3]
      all_goals rfl
    · intro c1
      have := p3 c1
      refine ⟨by omega, fun h2 t1 t2 t3 => nx _ h2 ?_ t1 t2 t3⟩
      unfold sp_s
      rw [if_pos (c := 0 ≤ (rv_p (mi_a h) zu).1) (by rw [P1]; exact c1), P1, e136]
      all_goals rfl
  have neg : zf < 0 → sp_v (rX h) (rv_p (mi_a h) zu) = pb_v (mi_a h 119 zu.toNat) := fun c => by
    unfold sp_v
    rw [if_neg (c := 0 ≤ (rv_p (mi_a h) zu).1) (by rw [P1]; omega)]
    all_goals rfl
  refine mt_wgB hS ou os of ?_ ?_ ?_ ?_
  · intro c1 c2
    refine ⟨by omega, fun h1 t1 t2 t3 => t84 h1 t1 t3 (fun i => ?_)⟩
    rw [t2 i, neg c1]
    unfold pb_v
    rw [if_neg (c := 3 ≤ mi_a h 119 zu.toNat ∧ mi_a h 119 zu.toNat ≤ 7) (by omega)]
    all_goals rfl
  · intro c1 c2 c3
    refine ⟨by omega, fun h1 t1 t2 t3 => t84 h1 t1 t3 (fun i => ?_)⟩
    rw [t2 i, neg c1]
    unfold pb_v
    rw [if_neg (c := 3 ≤ mi_a h 119 zu.toNat ∧ mi_a h 119 zu.toNat ≤ 7) (by omega)]
    all_goals rfl
  · intro c1 c2 c3
    refine ⟨by omega, fun h1 t1 t2 t3 => t84 h1 t1 t3 (fun i => ?_)⟩
    rw [t2 i, neg c1]
    unfold pb_v
    rw [if_pos (c := 3 ≤ mi_a h 119 zu.toNat ∧ mi_a h 119 zu.toNat ≤ 7) (by omega)]
    all_goals rfl
  · intro c1
    have := p3 c1
    have b := me_ab (k := 133) (i := zf.toNat) hS rfl (by decide) (by omega)
    refine ⟨by omega, fun h1 t1 t2 t3 => t84 h1 t1 t3 (fun i => ?_)⟩
    rw [t2 i]
    unfold sp_v
    rw [if_pos (c := 0 ≤ (rv_p (mi_a h) zu).1) (by rw [P1]; exact c1), P1]
    all_goals rfl
theorem me_weighx {Y : wk_Y} (hL : wk_L (mi_a h) Y) (hu0 : 0 ≤ zu) (hu1 : zu < wk_u Y) (hH : ∀ f : Nat, (f : Int) < wk_f Y → mi_a h 144 f ≤ 1000) (hS : ab_Sh sx_sk h) : me_E d 195 0 [some (.inr (.inr 109)), some (.inl zu), none, none] [] h (wg_R h zu h) := by
  obtain ⟨-, -, -, a6, a7, a8⟩ := hL.2.2.1 zu hu0 hu1
  have h60 := hL.1
  have h80 := hL.2.1
  refine mt_wgA hS ⟨by omega, by omega⟩ ?_ ?_ ?_
  · intro c1 c2
    refine ⟨by omega, fun h1 g1 g2 => ?_⟩
    have e := me_nil g2
    subst e
    exact wgx g1 (by unfold rv_t; rw [if_neg c1, if_neg c2]) ⟨hu0, by omega, fun z => absurd z (by decide), fun z => absurd z c2, a8⟩
  · intro c1 c2
    obtain ⟨b1, b2, b3, b4, b5, b6, -⟩ := a6 c2
    refine ⟨by omega, fun h1 g1 g2 => ?_⟩
    have e := me_nil g2
    subst e
    have b5 : 0 ≤ mi_a h1 114 (mi_a h1 115 (mi_a h1 120 zu.toNat).toNat).toNat := b5
    have b6 : mi_a h1 114 (mi_a h1 115 (mi_a h1 120 zu.toNat).toNat).toNat < wk_f Y := b6
    exact wgx g1 (by unfold rv_t; rw [if_neg c1, if_pos c2]) ⟨hu0, by omega, fun z => ⟨by omega, hH _ (by omega)⟩, fun z => ⟨b5, b1, b2⟩, fun z => by omega⟩
  · intro c1
    obtain ⟨b1, b2, -⟩ := a7 c1
    refine ⟨by omega, fun h1 g1 g2 => ?_⟩
    have e := me_nil g2
    subst e
    exact wgx g1 (by unfold rv_t; rw [if_pos c1]) ⟨hu0, by omega, fun z => ⟨by omega, hH _ (by omega)⟩, fun z => by omega, fun z => by omega⟩
theorem me_isVoidx (hS : ab_Sh sx_sk h) (u0 : 0 ≤ zu) (u1 : zu < 60) : me_E d 198 0 [some (.inr (.inr 109)), some (.inl zu)] [] h (fun w h' => h' = h ∧ ∃ z, w = some (.inl z) ∧ (z = 0 ∨ z = 1) ∧ (z = 1 ↔ (0 < mi_a h 122 zu.toNat ∨ mi_a h 131 zu.toNat ≠ 0))) := by
  refine mt_ivA hS ⟨by omega, by omega⟩ ?_ ?_ ?_
  · intro c1
    exact ⟨by omega, fun h1 g1 g2 => ⟨me_nil g2, 1, rfl, Or.inr rfl, ⟨fun _ => Or.inl c1, fun _ => rfl⟩⟩⟩
  · intro c1 c2
    exact ⟨by omega, fun h1 g1 g2 => ⟨me_nil g2, 0, rfl, Or.inl rfl, ⟨fun q => absurd q (by decide), fun q => (q.elim (fun q => by omega) (fun q => absurd c2 q))⟩⟩⟩
  · intro c1 c2
    exact ⟨by omega, fun h1 g1 g2 => ⟨me_nil g2, 1, rfl, Or.inr rfl, ⟨fun _ => Or.inr c2, fun _ => rfl⟩⟩⟩
end WGX
/-! the reference's alternative, exactly -/
/-- the parts' void, starts, height are those of X -/
def rp_ok (P : Int → sp_P) (X : sp_X) (h : sm_H) (u : Int) : Prop := mi_a h 131 u.toNat = sp_v X (P u) ∧ mx_b h 134 u.toNat = sp_s X (P u) ∧ mi_a h 142 u.toNat = rh_p X (P u)
def al_W : List (Nat × Nat) := [(16896, 16897), (17280, 17281), (17920, 17921), (18304, 18305), (18560, 18561)]
def al_R (X : sp_X) (h : sm_H) (za ze zh : Int) (zs : Int64) (us : List sp_P) (w : Option mi_V) (h' : sm_H) : Prop := w = none ∧ ab_Sh sx_sk h' ∧ ab_Fr al_W h h' ∧ (∀ i, mi_a h' 132 i = if i = za.toNat then (if ze ≠ 0 then sa_v X us else 0) else mi_a h 132 i) ∧ (∀ i, mx_b h' 135 i = if i = za.toNat then (if ze ≠ 0 then zs ||| sa_s X us else zs) else mx_b h 135 i) ∧ ∀ i, mi_a h' 143 i = if i = za.toNat then min 1000 (max zh (sa_h X us)) else mi_a h 143 i
section ALX
variable {d : Nat} {h : sm_H} {za zn : Int} {X : sp_X} {P : Int → sp_P}
theorem alx20 (hP : P = rv_p (mi_a h)) (a0 : 0 ≤ za) (a1 : za < 80) (hS : ab_Sh sx_sk h) (hn : zn ≤ 60) : ∀ (rest : List Int) (ze zl zh zk : Int) (zs : Int64) (q9 q10 : Option mi_V), zn = zk + rest.length → 0 ≤ zk → (∀ (k : Nat) (x : Int), rest[k]? = some x → mi_a h 145 (zk.toNat + k) = x ∧ 0 ≤ x ∧ x < 60) → (∀ x ∈ rest, rp_ok P X h x) → (ze = 0 ∨ ze = 1) → mi_in zl → mi_in zh → 0 ≤ zh → (∀ v, q9 = some v → mi_ok v) → (∀ v, q10 = some v → mi_ok v) → me_E (d + 1) 196 20 [some (.inr (.inr 109)), some (.inl za), some (.inl zn), some (.inl ze), some (.inr (.inl zs)), none, some (.inl zl), some (.inl zh), some (.inl zk), q9, q10] [] h (al_R X h za ze zh zs (rest.map P)) := by
  have oa : mi_in za := ⟨by omega, by omega⟩
  intro rest
  induction rest with
  | nil =>
    intro ze zl zh zk zs q9 q10 hz k0 hr hp e01 ol oh h0 o9 o10
    have hz : zn = zk := by rw [hz]; show zk + 0 = zk; omega
    have on : mi_in zn := ⟨by omega, by omega⟩
    have oe : mi_in ze := ⟨by omega, by omega⟩
    have ok : mi_in zk := ⟨by omega, by omega⟩
    have v1 : (if ze ≠ 0 then sa_v X ([] : List sp_P) else 0) = ze := by
      by_cases c : ze ≠ 0
      · rw [if_pos c]; show (1 : Int) = ze; omega
      · rw [if_neg c]; omega
    have v2 : (if ze ≠ 0 then zs ||| sa_s X ([] : List sp_P) else zs) = zs := by
      by_cases c : ze ≠ 0
      · rw [if_pos c]; exact or_0r zs
      · rw [if_neg c]
    refine mt_alC hS oa on oe ol oh ok o9 o10 ?_ ?_ ?_ ?_
    · intro c1 c2
      refine ⟨by omega, fun h1 g1 g2 g3 g4 g5 g6 => ⟨rfl, g1, g6.wide (fun c hc => ab_swr_ok (by decide) hc), fun i => ?_, fun i => ?_, fun i => ?_⟩⟩
      · rw [g2 i]; show _ = if i = za.toNat then (if ze ≠ 0 then sa_v X ([] : List sp_P) else 0) else _; rw [v1]
      · rw [g5 i]; show _ = if i = za.toNat then (if ze ≠ 0 then zs ||| sa_s X ([] : List sp_P) else zs) else _; rw [v2]
      · rw [g4 i]; show _ = if i = za.toNat then min 1000 (max zh 0) else _; rw [show min 1000 (max zh 0) = zh by omega]
    · intro c1 c2
      refine ⟨by omega, fun h1 g1 g2 g3 g4 g5 g6 => ⟨rfl, g1, g6.wide (fun c hc => ab_swr_ok (by decide) hc), fun i => ?_, fun i => ?_, fun i => ?_⟩⟩
      · rw [g2 i]; show _ = if i = za.toNat then (if ze ≠ 0 then sa_v X ([] : List sp_P) else 0) else _; rw [v1]
      · rw [g5 i]; show _ = if i = za.toNat then (if ze ≠ 0 then zs ||| sa_s X ([] : List sp_P) else zs) else _; rw [v2]
      · rw [g4 i]; show _ = if i = za.toNat then min 1000 (max zh 0) else _; rw [show min 1000 (max zh 0) = 1000 by omega]
    · intro c1; exfalso; omega
    · intro c1; exfalso; omega
  | cons u r ih =>
    intro ze zl zh zk zs q9 q10 hz k0 hr hp e01 ol oh h0 o9 o10
    have hz : zn = zk + 1 + r.length := by rw [hz, List.length_cons]; omega
    have on : mi_in zn := ⟨by omega, by omega⟩
    have oe : mi_in ze := ⟨by omega, by omega⟩
    have ok : mi_in zk := ⟨by omega, by omega⟩
    have oz : mi_in 0 := ⟨by decide, by decide⟩
    have lt : zk < zn := by omega
    obtain ⟨r1, r2, r3⟩ := hr 0 u rfl
    have r1 : mi_a h 145 zk.toNat = u := r1
    obtain ⟨m1, m2, m3⟩ := hp u List.mem_cons_self
    have w1 : (P u).2.2.1 ≠ 0 ↔ 0 < mi_a h 122 u.toNat := by
      rw [hP]
      show (if 0 < mi_a h 122 u.toNat then (if mi_a h 122 u.toNat = 1 then (1 : Int) else 2) else 0) ≠ 0 ↔ _
      by_cases c : 0 < mi_a h 122 u.toNat
      · rw [if_pos c]
        exact ⟨fun _ => c, fun _ => by split <;> decide⟩
      · rw [if_neg c]
        exact ⟨fun q => absurd rfl q, fun q => absurd q c⟩
    have hr' : ∀ (k : Nat) (x : Int), r[k]? = some x → mi_a h 145 ((zk + 1).toNat + k) = x ∧ 0 ≤ x ∧ x < 60 := fun k x hx => by
      have := hr (k + 1) x hx
      have e : zk.toNat + (k + 1) = (zk + 1).toNat + k := by omega
      rw [e] at this
      exact this
    have nx : ∀ (ze' zh' zl' : Int) (zs' : Int64) (q10 : Option mi_V), (ze' = 0 ∨ ze' = 1) → (ze' ≠ 0 ↔ (ze ≠ 0 ∧ sp_e X (P u))) → zs' = (if ze ≠ 0 then zs ||| sp_s X (P u) else zs) → zh' = max zh (sp_h X (P u)) → mi_in zl' → mi_in zh' → (∀ v, q10 = some v → mi_ok v) → me_E (d + 1) 196 20 [some (.inr (.inr 109)), some (.inl za), some (.inl zn), some (.inl ze'), some (.inr (.inl zs')), none, some (.inl zl'), some (.inl zh'), some (.inl (zk + 1)), some (.inl (mi_a h 145 zk.toNat)), q10] [] h (al_R X h za ze zh zs ((u :: r).map P)) := by
      intro ze' zh' zl' zs' q10 e01' q3 q4 q5 ol' oh' o10'
      refine (ih ze' zl' zh' (zk + 1) zs' _ q10 hz (by omega) hr' (fun x hx => hp x (List.mem_cons_of_mem _ hx)) e01' ol' oh' (by omega) (me_oi (mi_inT _)) o10').imp (fun w h' hq => ?_)
      obtain ⟨s1, s2, s3, s4, s5, s6⟩ := hq
      refine ⟨s1, s2, s3, fun i => ?_, fun i => ?_, fun i => ?_⟩
      · rw [s4 i, List.map_cons]
        congr 1
        rw [sa_v_c]
        by_cases ce : ze ≠ 0
        · rw [if_pos ce]
          by_cases cp : sp_e X (P u)
          · rw [if_pos cp, if_pos (q3.mpr ⟨ce, cp⟩)]
          · rw [if_neg cp, if_neg (fun q => cp (q3.mp q).2)]
        · rw [if_neg ce, if_neg (fun q => ce (q3.mp q).1)]
      · rw [s5 i, q4, List.map_cons]
        congr 1
        rw [sa_s_c]
        by_cases ce : ze ≠ 0
        · rw [if_pos ce, if_pos ce]
          by_cases cp : sp_e X (P u)
          · rw [if_pos cp, if_pos (q3.mpr ⟨ce, cp⟩), or_as]
          · rw [if_neg cp, if_neg (fun q => cp (q3.mp q).2)]
        · rw [if_neg ce, if_neg ce, if_neg (fun q => ce (q3.mp q).1)]
      · rw [s6 i, q5, List.map_cons]
        congr 1
        rw [sa_h_c]
        omega
    have hs : ∀ c : ¬ 0 < mi_a h 122 u.toNat, sp_h X (P u) = mi_a h 142 u.toNat := fun c => by
      rw [rh_sp, if_neg (fun q => c (w1.mp q)), m3]
    have hs0 : 0 < mi_a h 122 u.toNat → sp_h X (P u) = 0 := fun c => by
      rw [rh_sp, if_pos (w1.mpr c)]
    have go : ∀ (zs' : Int64) (zl' : Int), zs' = (if ze ≠ 0 then zs ||| sp_s X (P u) else zs) → mi_in zl' → me_E (d + 1) 196 77 [some (.inr (.inr 109)), some (.inl za), some (.inl zn), some (.inl ze), some (.inr (.inl zs')), none, some (.inl zl'), some (.inl zh), some (.inl zk), some (.inl (mi_a h 145 zk.toNat)), q10] [] h (al_R X h za ze zh zs ((u :: r).map P)) := by
      intro zs' zl' q4 ol'
      have ou : mi_in (mi_a h 145 zk.toNat) := mi_inT _
      refine mt_alD hS oa on oe ol' oh ok ou o10 ?_ ?_ ?_ ?_ ?_
      · intro c0 c1 c2
        refine ⟨by omega, fun h1 g1 g2 => ?_⟩
        have e := me_nil g2
        subst e
        rw [r1] at c1 c2
        exact nx 0 zh zl' zs' _ (Or.inl rfl) ⟨fun q => absurd rfl q, fun q => absurd c0 q.1⟩ q4 (by rw [hs (by omega)]; omega) ol' oh (me_oi (mi_inT _))
      · intro c0 c1 c2
        refine ⟨by omega, fun h1 g1 g2 => ?_⟩
        have e := me_nil g2
        subst e
        have c1' := c1
        have c2' := c2
        rw [r1] at c1' c2'
        exact nx 0 _ zl' zs' _ (Or.inl rfl) ⟨fun q => absurd rfl q, fun q => absurd c0 q.1⟩ q4 (by rw [hs (by omega), r1]; omega) ol' (mi_inT _) (me_oi (mi_inT _))
      · intro c0 c1 c2
        refine ⟨by omega, fun h1 g1 g2 => ?_⟩
        have e := me_nil g2
        subst e
        rw [r1] at c1
        exact nx 0 zh zl' zs' _ (Or.inl rfl) ⟨fun q => absurd rfl q, fun q => absurd c0 q.1⟩ q4 (by rw [hs0 c1]; omega) ol' oh (me_oi oz)
      · intro c0 c1 c2; exfalso; omega
      · intro c0 h1 g1 g2
        have e := me_nil g2
        subst e
        refine ⟨_, me_isVoidx g1 (by rw [r1]; exact r2) (by rw [r1]; exact r3), fun w h2 ow hq => ?_⟩
        obtain ⟨e, z, rfl, z01, hz⟩ := hq
        subst e
        rw [r1] at hz
        have ie : z = 1 ↔ sp_e X (P u) := by
          rw [hz, m1]
          unfold sp_e
          rw [w1]
        refine mt_alE g1 oa on oe ol' oh ok ou ⟨by omega, by omega⟩ o10 ?_ ?_ ?_ ?_ ?_ ?_ ?_ ?_
        · intro b0 b1 b2
          refine ⟨by omega, fun h1 g1 g2 => ?_⟩
          have e := me_nil g2
          subst e
          rw [r1] at b1 b2
          exact nx 0 zh zl' zs' _ (Or.inl rfl) ⟨fun q => absurd rfl q, fun q => by have := ie.mpr q.2; omega⟩ q4 (by rw [hs (by omega)]; omega) ol' oh (me_oi (mi_inT _))
        · intro b0 b1 b2
          refine ⟨by omega, fun h1 g1 g2 => ?_⟩
          have e := me_nil g2
          subst e
          have b1' := b1
          have b2' := b2
          rw [r1] at b1' b2'
          exact nx 0 _ zl' zs' _ (Or.inl rfl) ⟨fun q => absurd rfl q, fun q => by have := ie.mpr q.2; omega⟩ q4 (by rw [hs (by omega), r1]; omega) ol' (mi_inT _) (me_oi (mi_inT _))
        · intro b0 b1 b2
          refine ⟨by omega, fun h1 g1 g2 => ?_⟩
          have e := me_nil g2
          subst e
          rw [r1] at b1
          exact nx 0 zh zl' zs' _ (Or.inl rfl) ⟨fun q => absurd rfl q, fun q => by have := ie.mpr q.2; omega⟩ q4 (by rw [hs0 b1]; omega) ol' oh (me_oi oz)
        · intro b0 b1 b2; exfalso; omega
        · intro b0 b1 b2
          refine ⟨by omega, fun h1 g1 g2 => ?_⟩
          have e := me_nil g2
          subst e
          rw [r1] at b1 b2
          exact nx 1 zh zl' zs' _ (Or.inr rfl) ⟨fun _ => ⟨c0, ie.mp (by omega)⟩, fun _ => by decide⟩ q4 (by rw [hs (by omega)]; omega) ol' oh (me_oi (mi_inT _))
        · intro b0 b1 b2
          refine ⟨by omega, fun h1 g1 g2 => ?_⟩
          have e := me_nil g2
          subst e
          have b1' := b1
          have b2' := b2
          rw [r1] at b1' b2'
          exact nx 1 _ zl' zs' _ (Or.inr rfl) ⟨fun _ => ⟨c0, ie.mp (by omega)⟩, fun _ => by decide⟩ q4 (by rw [hs (by omega), r1]; omega) ol' (mi_inT _) (me_oi (mi_inT _))
        · intro b0 b1 b2
          refine ⟨by omega, fun h1 g1 g2 => ?_⟩
          have e := me_nil g2
          subst e
          rw [r1] at b1
          exact nx 1 zh zl' zs' _ (Or.inr rfl) ⟨fun _ => ⟨c0, ie.mp (by omega)⟩, fun _ => by decide⟩ q4 (by rw [hs0 b1]; omega) ol' oh (me_oi oz)
        · intro b0 b1 b2; exfalso; omega
    refine mt_alC hS oa on oe ol oh ok o9 o10 ?_ ?_ ?_ ?_
    · intro c1; exfalso; omega
    · intro c1; exfalso; omega
    · intro c1 c2
      refine ⟨by omega, fun h1 g1 g2 => ?_⟩
      have e := me_nil g2
      subst e
      exact go zs zl (by rw [if_neg (fun q => q c2)]) ol
    · intro c1 c2
      have r1' := r1
      refine ⟨by omega, fun h1 g1 g2 => ?_⟩
      have e := me_nil g2
      subst e
      refine go _ _ ?_ (mi_inT _)
      rw [if_pos c2, r1, m2]
def rv_l (g : wk_g) (a : Int) : List sp_P := (wk_row g 61 (g 126 a.toNat)).map (rv_p g)
def al_X (X : sp_X) (h : sm_H) (za : Int) (w : Option mi_V) (h' : sm_H) : Prop := w = none ∧ ab_Sh sx_sk h' ∧ ab_Fr al_W h h' ∧ (∀ i, mi_a h' 132 i = if i = za.toNat then sa_v X (rv_l (mi_a h) za) else mi_a h 132 i) ∧ (∀ i, mx_b h' 135 i = if i = za.toNat then sa_s X (rv_l (mi_a h) za) else mx_b h 135 i) ∧ ∀ i, mi_a h' 143 i = if i = za.toNat then min 1000 (sa_h X (rv_l (mi_a h) za)) else mi_a h 143 i
theorem me_alternativex {U : Int} (hS : ab_Sh sx_sk h) (hC : wk_C (mi_a h) U) (a0 : 0 ≤ za) (a1 : za < 80) (hu : mi_a h 126 za.toNat < 0 ∨ mi_a h 126 za.toNat < U) (hp : ∀ u, 0 ≤ u → u < U → rp_ok (rv_p (mi_a h)) X h u) : me_E (d + 1) 196 0 [some (.inr (.inr 109)), some (.inl za), none, none, none, none, none, none, none, none, none] [] h (al_X X h za) := by
  have oa : mi_in za := ⟨by omega, by omega⟩
  have hU := hC.1
  refine mt_alA hS oa ?_
  intro h1 g1 g2
  have e := me_nil g2
  subst e
  refine ⟨_, me_line g1 hC a0 a1 hu, fun w h2 ow hq => ?_⟩
  obtain ⟨q1, q2, rfl, q4, q5⟩ := hq
  refine mt_alB q1 oa ⟨by omega, by omega⟩ ?_
  intro h3 r1 r2
  have e := me_nil r2
  subst e
  have eq := rv_eq_fr q2 hS (by rfl)
  have L := alx20 (d := d) (X := X) (P := rv_p (mi_a h1)) (zn := ((wk_row (mi_a h1) 61 (mi_a h1 126 za.toNat)).length : Int)) eq.p.symm a0 a1 q1 q4 (wk_row (mi_a h1) 61 (mi_a h1 126 za.toNat)) 1 0 0 0 0 none none (by omega) (by decide) (fun k x hx => by
    have := q5 k x hx
    refine ⟨?_, this.2.1, by omega⟩
    show mi_a h3 145 (0 + k) = x
    rw [Nat.zero_add]
    exact this.1) (fun x hx => by
    obtain ⟨k, hk⟩ := List.getElem?_of_mem hx
    have := q5 k x hk
    obtain ⟨y1, y2, y3⟩ := hp x this.2.1 this.2.2
    exact ⟨(me_a (k := 131) q2 hS rfl rfl).trans y1, (me_b (k := 134) q2 hS rfl rfl).trans y2, (me_a (k := 142) q2 hS rfl rfl).trans y3⟩) (Or.inr rfl) fm_in0 fm_in0 (by decide) me_on me_on
  refine L.imp (fun w h' hq => ?_)
  obtain ⟨s1, s2, s3, s4, s5, s6⟩ := hq
  have n0 := sa_h_0 X (rv_l (mi_a h1) za)
  refine ⟨s1, s2, (q2.wide (fun c hc => ab_swr_ok (by decide) hc)).trans s3, fun i => ?_, fun i => ?_, fun i => ?_⟩
  · rw [s4 i, me_a (k := 132) q2 hS rfl rfl, if_pos (c := (1 : Int) ≠ 0) (by decide)]
    rfl
  · rw [s5 i, me_b (k := 135) q2 hS rfl rfl, if_pos (c := (1 : Int) ≠ 0) (by decide)]
    congr 1
    exact tb_ext (fun b => by rw [tb_or, tb_0, Bool.false_or]; rfl)
  · rw [s6 i, me_a (k := 143) q2 hS rfl rfl]
    congr 1
    show min 1000 (max 0 (sa_h X (rv_l (mi_a h1) za))) = _
    omega
end ALX
/-! the reference's formOf, exactly -/
def rv_as (g : wk_g) : Nat → Int → List (List sp_P)
  | 0, _ => []
  | m + 1, a => rv_l g a :: rv_as g m (g 128 a.toNat)
def GR (g : wk_g) : sg_G := fun F => rv_as g (g 130 F).toNat (g 129 F)
def fo_W : List (Nat × Nat) := [(13999, 14000), (17024, 17025), (17408, 17409), (18048, 18049), (18432, 18433)]
def fo_X (X : sp_X) (h : sm_H) (zf : Int) (w : Option mi_V) (h' : sm_H) : Prop := w = none ∧ ab_Sh sx_sk h' ∧ ab_Fr fo_W h h' ∧ (∀ i, mi_a h' 133 i = if i = zf.toNat then sf_v X (GR (mi_a h) zf.toNat) else mi_a h 133 i) ∧ (∀ i, mx_b h' 136 i = if i = zf.toNat then sf_s X (GR (mi_a h) zf.toNat) else mx_b h 136 i) ∧ (∀ i, mi_a h' 144 i = if i = zf.toNat then sf_h X (GR (mi_a h) zf.toNat) else mi_a h 144 i) ∧ (mi_f h' 13999 = 0 → mi_f h 13999 = 0 ∧ sf_v X (GR (mi_a h) zf.toNat) = mi_a h 133 zf.toNat ∧ sf_s X (GR (mi_a h) zf.toNat) = mx_b h 136 zf.toNat ∧ sf_h X (GR (mi_a h) zf.toNat) = mi_a h 144 zf.toNat)
/-- the alternatives' void, starts, height are those of X -/
def ap_ok (X : sp_X) (h : sm_H) (a : Int) : Prop := mi_a h 132 a.toNat = sa_v X (rv_l (mi_a h) a) ∧ mx_b h 135 a.toNat = sa_s X (rv_l (mi_a h) a) ∧ mi_a h 143 a.toNat = min 1000 (sa_h X (rv_l (mi_a h) a))
section FOX
variable {d : Nat} {h : sm_H} {zf : Int} {X : sp_X}
theorem fox105 {ze zl zh za : Int} {zs : Int64} (f0 : 0 ≤ zf) (f1 : zf < 80) (hS : ab_Sh sx_sk h) (ev : ze = sf_v X (GR (mi_a h) zf.toNat)) (es : zs = sf_s X (GR (mi_a h) zf.toNat)) (eh : zh = sf_h X (GR (mi_a h) zf.toNat)) (ol : mi_in zl) (oh : mi_in zh) (oa : mi_in za) : me_E d 199 105 [some (.inr (.inr 109)), some (.inl zf), some (.inl ze), some (.inr (.inl zs)), none, some (.inl zl), some (.inl zh), some (.inl za)] [] h (fo_X X h zf) := by
  have of : mi_in zf := ⟨by omega, by omega⟩
  have e01 := sf_v_01 X (GR (mi_a h) zf.toNat)
  rw [← ev] at e01
  have oe : mi_in ze := ⟨by omega, by omega⟩
  have go : ∀ h1, ab_Sh sx_sk h1 → ab_Fr [(13999, 14000)] h h1 → (mi_f h1 13999 = 0 → mi_f h 13999 = 0 ∧ ze = mi_a h 133 zf.toNat ∧ zs = mx_b h 136 zf.toNat ∧ zh = mi_a h 144 zf.toNat) → me_E d 199 164 [some (.inr (.inr 109)), some (.inl zf), some (.inl ze), some (.inr (.inl zs)), none, some (.inl zl), some (.inl zh), some (.inl za)] [] h1 (fo_X X h zf) := by
    intro h1 s1 s2 s3
    refine mt_foD s1 of oe ol oh oa ⟨by omega, fun h2 t1 t2 t3 t4 t5 t6 => ?_⟩
    refine ⟨rfl, t1, (s2.wide (fun c hc => ab_swr_ok (by decide) hc)).trans (t6.wide (fun c hc => ab_swr_ok (by decide) hc)), fun i => ?_, fun i => ?_, fun i => ?_, fun q => ?_⟩
    · rw [t2 i, me_a (k := 133) s2 hS rfl rfl, ev]
    · rw [t5 i, me_b (k := 136) s2 hS rfl rfl, es]
    · rw [t4 i, me_a (k := 144) s2 hS rfl rfl, eh]
    · obtain ⟨x1, x2, x3, x4⟩ := s3 ((me_f (c := 13999) t6 s1 rfl rfl).symm.trans q)
      exact ⟨x1, ev.symm.trans x2, es.symm.trans x3, eh.symm.trans x4⟩
  refine mt_foC hS of oe ol oh oa ?_ ?_ ?_ ?_ ?_ ?_
  · intro b k1 h1 s1 s2 s3
    exact go h1 s1 s3 (fun q => by omega)
  · intro b k1 k2
    exact ⟨by omega, fun h1 s1 s2 s3 => go h1 s1 s3 (fun q => by omega)⟩
  · intro b k1 k2 k3
    exact ⟨by omega, fun h1 s1 s2 s3 => go h1 s1 s3 (fun q => by omega)⟩
  · intro b k1 k2 k3 k4
    exact ⟨by omega, fun h1 s1 s2 s3 => go h1 s1 s3 (fun q => by omega)⟩
  · intro b k1 k2 k3 k4 k5
    exact ⟨by omega, fun h1 s1 s2 s3 => go h1 s1 s3 (fun q => ⟨k1, k2, lg_eq.mp k3, k5⟩)⟩
  · intro b k1 k2 k3 k4 k5
    exact ⟨by omega, fun h1 s1 s2 s3 => go h1 s1 s3 (fun q => by omega)⟩
theorem sf_h0 (X : sp_X) : ∀ as, 0 ≤ sf_h X as := by
  intro as
  induction as with
  | nil => show (0 : Int) ≤ 1000; decide
  | cons a r ih => have := sa_h_0 X a; unfold sf_h; omega
theorem me_formOfx {Y : wk_Y} {A : Int} (hL : wk_L (mi_a h) Y) (f0 : 0 ≤ zf) (f1 : zf < wk_f Y) (hS : ab_Sh sx_sk h) (hA : ∀ j : Nat, (j : Int) < mi_a h 130 zf.toNat → wk_alt (mi_a h) j (mi_a h 129 zf.toNat) < A) (hp : ∀ a, 0 ≤ a → a < A → ap_ok X h a) : me_E d 199 0 [some (.inr (.inr 109)), some (.inl zf), none, none, none, none, none, none] [] h (fo_X X h zf) := by
  have h80 := hL.2.1
  have of : mi_in zf := ⟨by omega, by omega⟩
  obtain ⟨-, -, c1, c2, -, c3⟩ := hL.2.2.2 zf f0 f1
  have lp : ∀ (m j : Nat) (pre : List (List sp_P)) (ze zl zh za : Int) (zs : Int64), j + m = (mi_a h 130 zf.toNat).toNat → za = wk_alt (mi_a h) j (mi_a h 129 zf.toNat) → pre ++ rv_as (mi_a h) m za = GR (mi_a h) zf.toNat → ze = sf_v X pre → zs = sf_s X pre → zh = sf_h X pre → mi_in zl → mi_in za → me_E d 199 20 [some (.inr (.inr 109)), some (.inl zf), some (.inl ze), some (.inr (.inl zs)), none, some (.inl zl), some (.inl zh), some (.inl za)] [] h (fo_X X h zf) := by
    intro m
    induction m with
    | zero =>
      intro j pre ze zl zh za zs hj hza hpre ev es eh ol oa
      have e01 := sf_v_01 X pre
      have b1 := sf_h_1000 X pre
      have b0 := sf_h0 X pre
      have oe : mi_in ze := ⟨by omega, by omega⟩
      have oh : mi_in zh := ⟨by omega, by omega⟩
      have neg : za < 0 := by
        have ej : j = (mi_a h 130 zf.toNat).toNat := by omega
        rw [← ej, ← hza] at c2
        exact c2
      have epre : pre = GR (mi_a h) zf.toNat := by rw [← hpre]; exact (List.append_nil pre).symm
      rw [epre] at ev es eh
      refine mt_foB hS of oe ol oh oa ?_ ?_ ?_ ?_ ?_ ?_ ?_
      · intro c h1 g1 g2
        have e := me_nil g2
        subst e
        exact fox105 f0 (by omega) g1 ev es eh ol oh oa
      all_goals
        intro c0
        exfalso
        omega
    | succ m ih =>
      intro j pre ze zl zh za zs hj hza hpre ev es eh ol oa
      have e01 := sf_v_01 X pre
      rw [← ev] at e01
      have b1 := sf_h_1000 X pre
      have b0 := sf_h0 X pre
      have oe : mi_in ze := ⟨by omega, by omega⟩
      have oh : mi_in zh := ⟨by omega, by omega⟩
      have lt : (j : Int) < mi_a h 130 zf.toNat := by omega
      have bd := c3 j lt
      rw [← hza] at bd
      have ba := hA j lt
      rw [← hza] at ba
      obtain ⟨m1, m2, m3⟩ := hp za bd.1 ba
      have a01 := sa_v_01 X (rv_l (mi_a h) za)
      obtain ⟨A1, A2, A3⟩ := sf_app X pre [rv_l (mi_a h) za]
      have hpre' : (pre ++ [rv_l (mi_a h) za]) ++ rv_as (mi_a h) m (mi_a h 128 za.toNat) = GR (mi_a h) zf.toNat := by
        rw [← hpre, List.append_assoc]
        all_goals rfl
      have nx : ∀ (ze' zl' zh' : Int) (zs' : Int64), ze' = (if ze ≠ 0 then 1 else if mi_a h 132 za.toNat ≠ 0 then 1 else 0) → zs' = zs ||| mx_b h 135 za.toNat → zh' = min zh (mi_a h 143 za.toNat) → mi_in zl' → me_E d 199 20 [some (.inr (.inr 109)), some (.inl zf), some (.inl ze'), some (.inr (.inl zs')), none, some (.inl zl'), some (.inl zh'), some (.inl (mi_a h 128 (Int.toNat za)))] [] h (fo_X X h zf) := by
        intro ze' zl' zh' zs' q1 q2 q3 ol'
        refine ih (j + 1) _ ze' zl' zh' _ zs' (by omega) (by rw [wk_alt_succ, hza]) hpre' ?_ ?_ ?_ ol' (mi_inT _)
        · rw [A1, q1, m1, ← ev]
          rfl
        · rw [A2, q2, m2, ← es]
          congr 1
          exact (or_0r _).symm
        · rw [A3, q3, m3, ← eh]
          rw [sf_h_c, sf_h_n]
          omega
      refine mt_foB hS of oe ol oh oa ?_ ?_ ?_ ?_ ?_ ?_ ?_
      · intro c; exfalso; omega
      · intro w0 w1 w2
        refine ⟨by omega, fun h1 g1 g2 => ?_⟩
        have e := me_nil g2
        subst e
        exact nx _ _ _ _ (by rw [if_pos w1]) rfl (by omega) (mi_inT _)
      · intro w0 w1 w2
        refine ⟨by omega, fun h1 g1 g2 => ?_⟩
        have e := me_nil g2
        subst e
        exact nx _ _ _ _ (by rw [if_pos w1]) rfl (by omega) (mi_inT _)
      · intro w0 w1 w2 w3
        refine ⟨by omega, fun h1 g1 g2 => ?_⟩
        have e := me_nil g2
        subst e
        exact nx _ _ _ _ (by rw [if_neg (fun q => q w1), if_neg (fun q => q w2)]) rfl (by omega) (mi_inT _)
      · intro w0 w1 w2 w3
        refine ⟨by omega, fun h1 g1 g2 => ?_⟩
        have e := me_nil g2
        subst e
        exact nx _ _ _ _ (by rw [if_neg (fun q => q w1), if_neg (fun q => q w2)]) rfl (by omega) (mi_inT _)
      · intro w0 w1 w2 w3
        refine ⟨by omega, fun h1 g1 g2 => ?_⟩
        have e := me_nil g2
        subst e
        exact nx _ _ _ _ (by rw [if_neg (fun q => q w1), if_pos w2]) rfl (by omega) (mi_inT _)
      · intro w0 w1 w2 w3
        refine ⟨by omega, fun h1 g1 g2 => ?_⟩
        have e := me_nil g2
        subst e
        exact nx _ _ _ _ (by rw [if_neg (fun q => q w1), if_pos w2]) rfl (by omega) (mi_inT _)
  refine mt_foA hS of ⟨by omega, fun h1 g1 g2 => ?_⟩
  have e := me_nil g2
  subst e
  exact lp (mi_a h1 130 zf.toNat).toNat 0 [] 0 0 1000 _ _ (by omega) rfl rfl rfl rfl rfl fm_in0 (mi_inT _)
end FOX
/-! the reference's study, exactly: the rounds for void, starts, height -/
section RVE
variable {h h' : sm_H}
theorem wk_row_cg {g g' : wk_g} (e1 : g' 124 = g 124) (e2 : g' 125 = g 125) : ∀ (n : Nat) (u : Int), wk_row g' n u = wk_row g n u := by
  intro n
  induction n with
  | zero => intro u; rfl
  | succ n ih => intro u; unfold wk_row; rw [e1, e2, ih]
theorem wk_alt_cg {g g' : wk_g} (e : g' 128 = g 128) : ∀ (n : Nat) (u : Int), wk_alt g' n u = wk_alt g n u := by
  intro n
  induction n with
  | zero => intro u; rfl
  | succ n ih => intro u; unfold wk_alt; rw [e, ih]
theorem rv_eq.l (e : rv_eq h h') : rv_l (mi_a h') = rv_l (mi_a h) := by
  funext a
  unfold rv_l
  rw [wk_row_cg (e 124 (by decide)) (e 125 (by decide)), e.p, e 126 (by decide)]
theorem rv_as_c {g : wk_g} {m : Nat} {a : Int} : rv_as g (m + 1) a = rv_l g a :: rv_as g m (g 128 a.toNat) := rfl
theorem rv_as_cg {g g' : wk_g} (el : rv_l g' = rv_l g) (e : g' 128 = g 128) : ∀ (n : Nat) (a : Int), rv_as g' n a = rv_as g n a := by
  intro n
  induction n with
  | zero => intro u; rfl
  | succ n ih => intro u; rw [rv_as_c, rv_as_c, ih, el, e]
theorem rv_eq.as (e : rv_eq h h') (n : Nat) (a : Int) : rv_as (mi_a h') n a = rv_as (mi_a h) n a := rv_as_cg e.l (e 128 (by decide)) n a
theorem rv_eq.g (e : rv_eq h h') : GR (mi_a h') = GR (mi_a h) := by
  funext F
  unfold GR
  rw [e.as, e 129 (by decide), e 130 (by decide)]
end RVE
/-- the alternatives of forms are among those that are there -/
def sy_A (h : sm_H) : Prop := ∀ F : Nat, (F : Int) < mi_f h 13965 → ∀ j : Nat, (j : Int) < mi_a h 130 F → wk_alt (mi_a h) j (mi_a h 129 F) < mi_f h 13964
section STX
variable {d : Nat} {hb : sm_H} {Y : wk_Y} {X : sp_X} {W : sp_F}
/-- what holds all the time -/
def st_B (hb : sm_H) (W : sp_F) (h : sm_H) : Prop := ab_Sh sx_sk h ∧ ab_Fr sy_W hb h ∧ mx_b h 138 = W
theorem st_eq {h : sm_H} (hSb : ab_Sh sx_sk hb) (hB : st_B hb W h) : rv_eq hb h := rv_eq_fr hB.2.1 hSb rfl
def st_w (hb : sm_H) (W : sp_F) (X : sp_X) (z : Int) (h : sm_H) : Prop := st_B hb W h ∧ rX h = X ∧ mi_f h 13999 = 0 ∧ ∀ u : Int, 0 ≤ u → u < z → rp_ok (rv_p (mi_a hb)) X h u
def st_a (hb : sm_H) (W : sp_F) (X : sp_X) (z : Int) (h : sm_H) : Prop := st_w hb W X (mi_f hb 13963) h ∧ ∀ a : Int, 0 ≤ a → a < z → ap_ok X h a
def st_f (hb : sm_H) (W : sp_F) (X : sp_X) (z : Int) (h : sm_H) : Prop := st_B hb W h ∧ (∀ u : Int, 0 ≤ u → u < mi_f hb 13963 → rp_ok (rv_p (mi_a hb)) X h u) ∧ (∀ a : Int, 0 ≤ a → a < mi_f hb 13964 → ap_ok X h a) ∧ (∀ F : Nat, (F : Int) < z → (rX h).1 F = sf_v X (GR (mi_a hb) F) ∧ (rX h).2.1 F = sf_s X (GR (mi_a hb) F) ∧ (rX h).2.2 F = sf_h X (GR (mi_a hb) F)) ∧ (∀ F : Nat, z ≤ F → (rX h).1 F = X.1 F ∧ (rX h).2.1 F = X.2.1 F ∧ (rX h).2.2 F = X.2.2 F) ∧ (mi_f h 13999 = 0 → ∀ F : Nat, (F : Int) < z → sf_v X (GR (mi_a hb) F) = X.1 F ∧ sf_s X (GR (mi_a hb) F) = X.2.1 F ∧ sf_h X (GR (mi_a hb) F) = X.2.2 F)
theorem rp_ok_fr {P : Int → sp_P} {h h' : sm_H} {u : Int} {wr : List (Nat × Nat)} (hF : ab_Fr wr h h') (hS : ab_Sh sx_sk h) (hw : (ab_in wr 16768 || ab_in wr 17152 || ab_in wr 18176) = false) (k : rp_ok P X h u) : rp_ok P X h' u := by
  simp only [Bool.or_eq_false_iff] at hw
  exact ⟨(me_a (k := 131) hF hS rfl hw.1.1).trans k.1, (me_b (k := 134) hF hS rfl hw.1.2).trans k.2.1, (me_a (k := 142) hF hS rfl hw.2).trans k.2.2⟩
theorem ap_ok_fr {h h' : sm_H} {a : Int} {wr : List (Nat × Nat)} (hF : ab_Fr wr h h') (hS : ab_Sh sx_sk h) (e : rv_eq h h') (hw : (ab_in wr 16896 || ab_in wr 17280 || ab_in wr 18304) = false) (k : ap_ok X h a) : ap_ok X h' a := by
  simp only [Bool.or_eq_false_iff] at hw
  unfold ap_ok at k ⊢
  rw [e.l]
  exact ⟨(me_a (k := 132) hF hS rfl hw.1.1).trans k.1, (me_b (k := 135) hF hS rfl hw.1.2).trans k.2.1, (me_a (k := 143) hF hS rfl hw.2).trans k.2.2⟩
theorem rX_fr {h h' : sm_H} {wr : List (Nat × Nat)} (hF : ab_Fr wr h h') (hS : ab_Sh sx_sk h) (hw : (ab_in wr 17024 || ab_in wr 17408 || ab_in wr 18432) = false) : rX h' = rX h := by
  simp only [Bool.or_eq_false_iff] at hw
  unfold rX
  rw [show mi_a h' 133 = mi_a h 133 from funext (fun i => me_a (k := 133) hF hS rfl hw.1.1), show mx_b h' 136 = mx_b h 136 from funext (fun i => me_b (k := 136) hF hS rfl hw.1.2), show mi_a h' 144 = mi_a h 144 from funext (fun i => me_a (k := 144) hF hS rfl hw.2)]
theorem st_cnt {h : sm_H} (hSb : ab_Sh sx_sk hb) (hB : st_B hb W h) : mi_f h 13963 = mi_f hb 13963 ∧ mi_f h 13964 = mi_f hb 13964 ∧ mi_f h 13965 = mi_f hb 13965 ∧ mi_f h 13961 = mi_f hb 13961 := ⟨me_f (c := 13963) hB.2.1 hSb rfl rfl, me_f (c := 13964) hB.2.1 hSb rfl rfl, me_f (c := 13965) hB.2.1 hSb rfl rfl, me_f (c := 13961) hB.2.1 hSb rfl rfl⟩
variable {Q : Option mi_V → sm_H → Prop} {za : Int} {q3 : Option mi_V}
theorem st137 (hL : sy_L hb Y) (hA : sy_A hb) (hSb : ab_Sh sx_sk hb) (oa : mi_in za) (oa1 : mi_in (za + 1)) (o3 : ∀ v, q3 = some v → mi_ok v) (K : ∀ h zb, mi_in zb → st_f hb W X (mi_f hb 13965) h → me_E (d + 3) 194 74 [some (.inr (.inr 109)), some (.inl (za + 1)), some (.inl zb), q3] [] h Q) : ∀ (N : Nat) (zb : Int) (h : sm_H), 80 - zb < N → 0 ≤ zb → zb ≤ mi_f hb 13965 → st_f hb W X zb h → me_E (d + 3) 194 137 [some (.inr (.inr 109)), some (.inl za), some (.inl zb), q3] [] h Q := by
  intro N
  induction N with
  | zero =>
    intro zb h hN b0 b1
    exfalso
    have := me_fb (c := 13965) hSb rfl
    omega
  | succ N ih =>
    intro zb h hN b0 b1 hI
    obtain ⟨i1, i2, i3, i4, i5, i6⟩ := id hI
    have b80 := me_fb (c := 13965) hSb rfl
    have ob : mi_in zb := ⟨by omega, by omega⟩
    have cn := st_cnt hSb i1
    have e := st_eq hSb i1
    refine mt_stH i1.1 oa ob o3 ?_ ?_
    · intro b c1
      refine ⟨oa1, fun h1 g1 g2 => ?_⟩
      have e0 := me_nil g2
      subst e0
      have : zb = mi_f hb 13965 := by omega
      rw [this] at hI
      exact K h1 zb ob hI
    · intro b c1 h1 g1 g2
      have e0 := me_nil g2
      subst e0
      have hL1 := sy_L_fr hL hSb i1.2.1
      have zlt : zb < mi_f hb 13965 := by omega
      refine ⟨_, me_formOfx (d := d + 2) (X := X) (A := mi_f hb 13964) hL1.1 b0 (by rw [hL1.2.2.1]; exact c1) i1.1 (fun j hj => ?_) i3, fun w h2 oww hq => ?_⟩
      · rw [wk_alt_cg (e 128 (by decide)), e 129 (by decide)]
        rw [e 130 (by decide)] at hj
        exact hA zb.toNat (by omega) j hj
      · obtain ⟨rfl, s1, s2, s3, s4, s5, s6⟩ := hq
        rw [e.g] at s3 s4 s5 s6
        have B2 : st_B hb W h2 := ⟨s1, i1.2.1.trans (s2.wide (fun c hc => ab_swr_ok (by decide) hc)), (funext fun i => me_b (k := 138) s2 i1.1 rfl rfl).trans i1.2.2⟩
        have e12 : rv_eq h1 h2 := rv_eq_fr s2 i1.1 rfl
        refine mt_stI s1 oa ob o3 ⟨⟨by omega, by omega⟩, fun h3 g1 g2 => ?_⟩
        have e0 := me_nil g2
        subst e0
        refine ih (zb + 1) h3 (by omega) (by omega) (by omega) ⟨B2, fun u u0 u1 => rp_ok_fr s2 i1.1 rfl (i2 u u0 u1), fun a a0 a1 => ap_ok_fr s2 i1.1 e12 rfl (i3 a a0 a1), fun F hF => ?_, fun F hF => ?_, fun q F hF => ?_⟩
        · show mi_a h3 133 F = _ ∧ mx_b h3 136 F = _ ∧ mi_a h3 144 F = _
          rw [s3, s4, s5]
          by_cases c : F = zb.toNat
          · rw [if_pos c, if_pos c, if_pos c, c]
            exact ⟨rfl, rfl, rfl⟩
          · rw [if_neg c, if_neg c, if_neg c]
            exact i4 F (by omega)
        · show mi_a h3 133 F = _ ∧ mx_b h3 136 F = _ ∧ mi_a h3 144 F = _
          have c : F ≠ zb.toNat := by omega
          rw [s3, s4, s5, if_neg c, if_neg c, if_neg c]
          exact i5 F (by omega)
        · obtain ⟨x1, x2, x3, x4⟩ := s6 q
          by_cases c : F = zb.toNat
          · obtain ⟨y1, y2, y3⟩ := i5 F (by omega)
            rw [← c] at x2 x3 x4
            exact ⟨x2.trans y1, x3.trans y2, x4.trans y3⟩
          · exact i6 x1 F (by omega)
theorem st116 (hL : sy_L hb Y) (hSb : ab_Sh sx_sk hb) (oa : mi_in za) (o3 : ∀ v, q3 = some v → mi_ok v) (K : ∀ h, st_a hb W X (mi_f hb 13964) h → me_E (d + 3) 194 137 [some (.inr (.inr 109)), some (.inl za), some (.inl 0), q3] [] h Q) : ∀ (N : Nat) (zb : Int) (h : sm_H), 80 - zb < N → 0 ≤ zb → zb ≤ mi_f hb 13964 → st_a hb W X zb h → me_E (d + 3) 194 116 [some (.inr (.inr 109)), some (.inl za), some (.inl zb), q3] [] h Q := by
  intro N
  induction N with
  | zero =>
    intro zb h hN b0 b1
    exfalso
    have := me_fb (c := 13964) hSb rfl
    omega
  | succ N ih =>
    intro zb h hN b0 b1 hI
    obtain ⟨⟨i1, i2, i3, i4⟩, i5⟩ := id hI
    have b80 := me_fb (c := 13964) hSb rfl
    have ob : mi_in zb := ⟨by omega, by omega⟩
    have cn := st_cnt hSb i1
    have e := st_eq hSb i1
    refine mt_stF i1.1 oa ob o3 ?_ ?_
    · intro b c1 h1 g1 g2
      have e0 := me_nil g2
      subst e0
      have : zb = mi_f hb 13964 := by omega
      rw [this] at hI
      exact K h1 hI
    · intro b c1 h1 g1 g2
      have e0 := me_nil g2
      subst e0
      have hL1 := sy_L_fr hL hSb i1.2.1
      refine ⟨_, me_alternativex (d := d + 1) (X := X) (U := wk_u Y) i1.1 (wk_L_C hL1.1) b0 (by omega) (hL1.2.2.2.1 zb b0 (by omega)) (fun u u0 u1 => by rw [e.p]; exact i4 u u0 (by rw [hL1.2.1, cn.1] at u1; exact u1)), fun w h2 oww hq => ?_⟩
      obtain ⟨rfl, s1, s2, s3, s4, s5⟩ := hq
      have B2 : st_B hb W h2 := ⟨s1, i1.2.1.trans (s2.wide (fun c hc => ab_swr_ok (by decide) hc)), (funext fun i => me_b (k := 138) s2 i1.1 rfl rfl).trans i1.2.2⟩
      have e12 : rv_eq h1 h2 := rv_eq_fr s2 i1.1 rfl
      refine mt_stG s1 oa ob o3 ⟨⟨by omega, by omega⟩, fun h3 g1 g2 => ?_⟩
      have e0 := me_nil g2
      subst e0
      refine ih (zb + 1) h3 (by omega) (by omega) (by omega) ⟨⟨B2, (rX_fr s2 i1.1 rfl).trans i2, (me_f (c := 13999) s2 i1.1 rfl rfl).trans i3, fun u u0 u1 => rp_ok_fr s2 i1.1 rfl (i4 u u0 u1)⟩, fun a a0 a1 => ?_⟩
      unfold ap_ok
      rw [s3, s4, s5, e12.l]
      by_cases c : a = zb
      · rw [if_pos (by rw [c]), if_pos (by rw [c]), if_pos (by rw [c]), c]
        exact ⟨rfl, rfl, rfl⟩
      · have c' : a.toNat ≠ zb.toNat := by omega
        rw [if_neg c', if_neg c', if_neg c']
        exact i5 a a0 (by omega)
theorem st95 (hL : sy_L hb Y) (hSb : ab_Sh sx_sk hb) (hH : ∀ F : Nat, (F : Int) < mi_f hb 13965 → X.2.2 F ≤ 1000) (oa : mi_in za) (o3 : ∀ v, q3 = some v → mi_ok v) (K : ∀ h, st_w hb W X (mi_f hb 13963) h → me_E (d + 3) 194 116 [some (.inr (.inr 109)), some (.inl za), some (.inl 0), q3] [] h Q) : ∀ (N : Nat) (zb : Int) (h : sm_H), 60 - zb < N → 0 ≤ zb → zb ≤ mi_f hb 13963 → st_w hb W X zb h → me_E (d + 3) 194 95 [some (.inr (.inr 109)), some (.inl za), some (.inl zb), q3] [] h Q := by
  intro N
  induction N with
  | zero =>
    intro zb h hN b0 b1
    exfalso
    have := me_fb (c := 13963) hSb rfl
    omega
  | succ N ih =>
    intro zb h hN b0 b1 hI
    obtain ⟨i1, i2, i3, i4⟩ := id hI
    have b60 := me_fb (c := 13963) hSb rfl
    have ob : mi_in zb := ⟨by omega, by omega⟩
    have cn := st_cnt hSb i1
    have e := st_eq hSb i1
    refine mt_stD i1.1 oa ob o3 ?_ ?_
    · intro b c1 h1 g1 g2
      have e0 := me_nil g2
      subst e0
      have : zb = mi_f hb 13963 := by omega
      rw [this] at hI
      exact K h1 hI
    · intro b c1 h1 g1 g2
      have e0 := me_nil g2
      subst e0
      have hL1 := sy_L_fr hL hSb i1.2.1
      refine ⟨_, me_weighx (d := d + 2) hL1.1 b0 (by rw [hL1.2.1]; exact c1) (fun F hF => ?_) i1.1, fun w h2 oww hq => ?_⟩
      · rw [hL1.2.2.1, cn.2.2.1] at hF
        have := hH F hF
        rw [← i2] at this
        exact this
      · obtain ⟨rfl, s1, s2, s3, s4, s5⟩ := hq
        rw [i2, e.p] at s3 s4 s5
        have B2 : st_B hb W h2 := ⟨s1, i1.2.1.trans (s2.wide (fun c hc => ab_swr_ok (by decide) hc)), (funext fun i => me_b (k := 138) s2 i1.1 rfl rfl).trans i1.2.2⟩
        refine mt_stE s1 oa ob o3 ⟨⟨by omega, by omega⟩, fun h3 g1 g2 => ?_⟩
        have e0 := me_nil g2
        subst e0
        refine ih (zb + 1) h3 (by omega) (by omega) (by omega) ⟨B2, (rX_fr s2 i1.1 rfl).trans i2, (me_f (c := 13999) s2 i1.1 rfl rfl).trans i3, fun u u0 u1 => ?_⟩
        unfold rp_ok
        rw [s3, s4, s5]
        by_cases c : u = zb
        · rw [if_pos (by rw [c]), if_pos (by rw [c]), if_pos (by rw [c]), c]
          exact ⟨rfl, rfl, rfl⟩
        · have c' : u.toNat ≠ zb.toNat := by omega
          rw [if_neg c', if_neg c', if_neg c']
          exact i4 u u0 (by omega)
/-- the forms' parts are in their range -/
theorem sy_OK (hL : sy_L hb Y) (hA : sy_A hb) : sg_OK (mi_f hb 13965).toNat (GR (mi_a hb)) := by
  have hC := wk_L_C hL.1
  intro F hF us hus
  have hF' : (F : Int) < wk_f Y := by rw [hL.2.2.1]; omega
  obtain ⟨-, -, c1, c2, -, c3⟩ := hL.1.2.2.2 F (by omega) hF'
  have ex : ∀ (m j : Nat), j + m = (mi_a hb 130 F).toNat → ∀ us ∈ rv_as (mi_a hb) m (wk_alt (mi_a hb) j (mi_a hb 129 F)), ∃ i : Nat, (i : Int) < mi_a hb 130 F ∧ us = rv_l (mi_a hb) (wk_alt (mi_a hb) i (mi_a hb 129 F)) := by
    intro m
    induction m with
    | zero => intro j _ us hus; cases hus
    | succ m ih =>
      intro j hj us hus
      rcases List.mem_cons.mp hus with rfl | hus
      · exact ⟨j, by omega, rfl⟩
      · have ee : wk_alt (mi_a hb) (j + 1) (mi_a hb 129 F) = mi_a hb 128 (wk_alt (mi_a hb) j (mi_a hb 129 F)).toNat := by rw [wk_alt_succ]
        refine ih (j + 1) (by omega) us ?_
        rw [ee]
        exact hus
  obtain ⟨i, hi, rfl⟩ := ex _ 0 (Nat.zero_add _) us hus
  have hu : mi_a hb 126 (wk_alt (mi_a hb) i (mi_a hb 129 F)).toNat < 0 ∨ mi_a hb 126 (wk_alt (mi_a hb) i (mi_a hb 129 F)).toNat < wk_u Y := by
    rcases (c3 i hi).2.2 with q | q
    · exact Or.inl q
    · exact Or.inr q.1
  have key : ∀ (N : Nat) (u : Int), (u < 0 ∨ u < wk_u Y) → ∀ x ∈ wk_row (mi_a hb) N u, 0 ≤ x ∧ x < wk_u Y := by
    intro N
    induction N with
    | zero => intro u _ x hx; cases hx
    | succ N ih =>
      intro u hu x hx
      unfold wk_row at hx
      by_cases n0 : u < 0
      · rw [if_pos n0] at hx; cases hx
      · rw [if_neg n0] at hx
        obtain ⟨k1, k2⟩ := hC.2 u (by omega) (hu.resolve_left n0)
        have nx : mi_a hb 125 u.toNat < 0 ∨ mi_a hb 125 u.toNat < wk_u Y := by
          by_cases q : 0 ≤ mi_a hb 125 u.toNat
          · exact Or.inr (k2 q).1
          · omega
        by_cases c4 : 0 ≤ mi_a hb 124 u.toNat
        · rw [if_pos c4] at hx
          rcases List.mem_cons.mp hx with rfl | hx
          · exact ⟨by omega, hu.resolve_left n0⟩
          · rcases List.mem_cons.mp hx with rfl | hx
            · exact ⟨c4, (k1 c4).1⟩
            · exact ih _ nx x hx
        · rw [if_neg c4] at hx
          rcases List.mem_cons.mp hx with rfl | hx
          · exact ⟨by omega, hu.resolve_left n0⟩
          · exact ih _ nx x hx
  have k : ∀ p ∈ rv_l (mi_a hb) (wk_alt (mi_a hb) i (mi_a hb 129 F)), p.1 < ((mi_f hb 13965).toNat : Int) ∧ 0 ≤ p.2.1 := fun p hp => by
    obtain ⟨u, hu', rfl⟩ := List.mem_map.mp hp
    obtain ⟨u0, u1⟩ := key _ _ hu u hu'
    obtain ⟨-, -, -, a6, a7, a8⟩ := hL.1.2.2.1 u u0 u1
    have fb := hL.2.2.1
    refine ⟨?_, ?_⟩
    · show rv_t (mi_a hb) u < _
      unfold rv_t
      by_cases c10 : mi_a hb 119 u.toNat = 10
      · rw [if_pos c10]
        have := (a7 c10).2.1
        omega
      · rw [if_neg c10]
        by_cases c9 : mi_a hb 119 u.toNat = 9
        · rw [if_pos c9]
          obtain ⟨-, -, -, -, -, b6, -⟩ := a6 c9
          have b6 : mi_a hb 114 (mi_a hb 115 (mi_a hb 120 u.toNat).toNat).toNat < wk_f Y := b6
          omega
        · rw [if_neg c9]
          omega
    · show 0 ≤ (if mi_a hb 119 u.toNat = 9 then (1 : Int) else 0)
      split <;> decide
  exact ⟨fun p hp => (k p hp).1, fun p hp => (k p hp).2⟩
end STX
/-! the reference's study, exactly: the rounds are through -/
theorem sr_eq {n : Nat} {G : sg_G} {X Z : sp_X} (hG : sg_OK n G) (h : sp_eq n X Z) : sp_eq n (sr G X) (sr G Z) := fun F hF => h.fs (hG F hF)
theorem sr_k_1000 {G : sg_G} : ∀ (k F : Nat), (sr_k G k).2.2 F ≤ 1000 := by
  intro k F
  cases k with
  | zero => exact Int.le_refl _
  | succ k => exact sf_h_1000 _ _
/-- a part's void and starts -/
def rq_ok (P : Int → sp_P) (X : sp_X) (h : sm_H) (u : Int) : Prop := mi_a h 131 u.toNat = sp_v X (P u) ∧ mx_b h 134 u.toNat = sp_s X (P u)
theorem rv_p1 {hb : sm_H} {Y : wk_Y} (hL : sy_L hb Y) {u : Int} (u0 : 0 ≤ u) (u1 : u < wk_u Y) : (rv_p (mi_a hb) u).1 < ((mi_f hb 13965).toNat : Int) := by
  obtain ⟨-, -, -, a6, a7, a8⟩ := hL.1.2.2.1 u u0 u1
  have fb := hL.2.2.1
  show rv_t (mi_a hb) u < _
  unfold rv_t
  by_cases c10 : mi_a hb 119 u.toNat = 10
  · rw [if_pos c10]
    have := (a7 c10).2.1
    omega
  · rw [if_neg c10]
    by_cases c9 : mi_a hb 119 u.toNat = 9
    · rw [if_pos c9]
      obtain ⟨-, -, -, -, -, b6, -⟩ := a6 c9
      have b6 : mi_a hb 114 (mi_a hb 115 (mi_a hb 120 u.toNat).toNat).toNat < wk_f Y := b6
      omega
    · rw [if_neg c9]
      omega
theorem rq_ok_eq {X Z : sp_X} {P : Int → sp_P} {h : sm_H} {u : Int} {n : Nat} (e : sp_eq n X Z) (hp : (P u).1 < n) (k : rp_ok P X h u) : rq_ok P Z h u := by
  have e1 : sp_v X (P u) = sp_v Z (P u) := by
    unfold sp_v
    by_cases c : 0 ≤ (P u).1
    · rw [if_pos c, if_pos c]; exact (e _ (by omega)).1
    · rw [if_neg c, if_neg c]
  have e2 : sp_s X (P u) = sp_s Z (P u) := by
    unfold sp_s
    by_cases c : 0 ≤ (P u).1
    · rw [if_pos c, if_pos c]; exact (e _ (by omega)).2.1
    · rw [if_neg c, if_neg c]
  exact ⟨k.1.trans e1, k.2.1.trans e2⟩
/-- the first rounds are through -/
def st_1x (hb : sm_H) (W : sp_F) (j : Nat) (h : sm_H) : Prop := st_B hb W h ∧ sp_eq (mi_f hb 13965).toNat (rX h) (sr_k (GR (mi_a hb)) j) ∧ sp_fix (mi_f hb 13965).toNat (GR (mi_a hb)) (sr_k (GR (mi_a hb)) j) ∧ ∀ u : Int, 0 ≤ u → u < mi_f hb 13963 → rq_ok (rv_p (mi_a hb)) (sr_k (GR (mi_a hb)) j) h u
def st_H (hb : sm_H) (W : sp_F) (k : Nat) (h : sm_H) : Prop := st_B hb W h ∧ sp_eq (mi_f hb 13965).toNat (rX h) (sr_k (GR (mi_a hb)) k) ∧ (k = 0 → mi_f h 13999 ≠ 0) ∧ ∀ j, k = j + 1 → (mi_f h 13999 = 0 → sp_eq (mi_f hb 13965).toNat (sr_k (GR (mi_a hb)) (j + 1)) (sr_k (GR (mi_a hb)) j)) ∧ ∃ X, sp_eq (mi_f hb 13965).toNat X (sr_k (GR (mi_a hb)) j) ∧ ∀ u : Int, 0 ≤ u → u < mi_f hb 13963 → rp_ok (rv_p (mi_a hb)) X h u
section STY
variable {d : Nat} {hb : sm_H} {Y : wk_Y} {W : sp_F} {Q : Option mi_V → sm_H → Prop}
theorem st_end {k : Nat} {h : sm_H} (hL : sy_L hb Y) (hA : sy_A hb) (hSb : ab_Sh sx_sk hb) (hH : st_H hb W k h) (hx : mi_f h 13999 = 0 ∨ 900 ≤ k) : ∃ j, st_1x hb W j h := by
  obtain ⟨i1, i3, i5, i6⟩ := hH
  have hG := sy_OK hL hA
  have b80 := me_fb (c := 13965) hSb rfl
  cases k with
  | zero =>
    exfalso
    rcases hx with q | q
    · exact i5 rfl q
    · omega
  | succ j =>
    obtain ⟨j1, X, j2, j3⟩ := i6 j rfl
    have E : sp_eq (mi_f hb 13965).toNat (sr_k (GR (mi_a hb)) (j + 1)) (sr_k (GR (mi_a hb)) j) := by
      rcases hx with q | q
      · exact j1 q
      · exact sr_k_stop hG (by omega)
    exact ⟨j, i1, i3.trans E, sr_fix E, fun u u0 u1 => rq_ok_eq j2 (rv_p1 hL u0 (by rw [hL.2.1]; exact u1)) (j3 u u0 u1)⟩
theorem st74 (hL : sy_L hb Y) (hA : sy_A hb) (hSb : ab_Sh sx_sk hb) (K : ∀ h j q2 q3, (∀ v, q2 = some v → mi_ok v) → (∀ v, q3 = some v → mi_ok v) → st_1x hb W j h → mi_f h 13999 = 1 → me_E (d + 3) 194 169 [some (.inr (.inr 109)), some (.inl 0), q2, q3] [] h Q) : ∀ (N k : Nat) (q2 q3 : Option mi_V) (h : sm_H), 900 - k < N → k ≤ 900 → (∀ v, q2 = some v → mi_ok v) → (∀ v, q3 = some v → mi_ok v) → st_H hb W k h → me_E (d + 3) 194 74 [some (.inr (.inr 109)), some (.inl (k : Int)), q2, q3] [] h Q := by
  have hG := sy_OK hL hA
  have b80 := me_fb (c := 13965) hSb rfl
  have b64 := me_fb (c := 13964) hSb rfl
  have b63 := me_fb (c := 13963) hSb rfl
  have out : ∀ (h h1 : sm_H) (j : Nat) (q2 q3 : Option mi_V), (∀ v, q2 = some v → mi_ok v) → (∀ v, q3 = some v → mi_ok v) → st_1x hb W j h → ab_Sh sx_sk h1 → mi_f h1 13999 = 1 → ab_Fr [(13999, 14000)] h h1 → me_E (d + 3) 194 169 [some (.inr (.inr 109)), some (.inl 0), q2, q3] [] h1 Q := by
    intro h h1 j q2 q3 o2 o3 hj s1 s2 s3
    obtain ⟨⟨b1, b2, b3⟩, j2, j3, j4⟩ := hj
    refine K h1 j q2 q3 o2 o3 ⟨⟨s1, b2.trans (s3.wide (fun c hc => ab_swr_ok (by decide) hc)), (funext fun i => me_b (k := 138) s3 b1 rfl rfl).trans b3⟩, by rw [rX_fr s3 b1 rfl]; exact j2, j3, fun u u0 u1 => ?_⟩ s2
    obtain ⟨x1, x2⟩ := j4 u u0 u1
    exact ⟨(me_a (k := 131) s3 b1 rfl rfl).trans x1, (me_b (k := 134) s3 b1 rfl rfl).trans x2⟩
  intro N
  induction N with
  | zero => intro k q2 q3 h hN; exfalso; omega
  | succ N ih =>
    intro k q2 q3 h hN hk o2 o3 hH
    have oa : mi_in (k : Int) := ⟨by omega, by omega⟩
    refine mt_stC hH.1.1 oa o2 o3 ?_ ?_ ?_
    · intro c1 h1 s1 s2 s3
      obtain ⟨j, hj⟩ := st_end hL hA hSb hH (Or.inr (by omega))
      exact out h h1 j q2 q3 o2 o3 hj s1 s2 s3
    · intro b c1 c2 h1 s1 s2 s3
      obtain ⟨j, hj⟩ := st_end hL hA hSb hH (Or.inl c2)
      exact out h h1 j q2 q3 o2 o3 hj s1 s2 s3
    · intro b c1 c2 h1 s1 s2 s3
      obtain ⟨⟨b1, b2, b3⟩, i3, i5, i6⟩ := hH
      have eX : rX h1 = rX h := rX_fr s3 b1 rfl
      have B1 : st_B hb W h1 := ⟨s1, b2.trans (s3.wide (fun c hc => ab_swr_ok (by decide) hc)), (funext fun i => me_b (k := 138) s3 b1 rfl rfl).trans b3⟩
      refine st95 (W := W) (X := rX h) hL hSb (fun F hF => ?_) oa o3 (fun h2 w2 => ?_) 61 0 h1 (by decide) (by decide) b63.1 ⟨B1, eX, s2, fun u u0 u1 => by omega⟩
      · rw [(i3 F (by omega)).2.2]
        exact sr_k_1000 k F
      · refine st116 (W := W) (X := rX h) hL hSb oa o3 (fun h3 w3 => ?_) 81 0 h2 (by decide) (by decide) b64.1 ⟨w2, fun a a0 a1 => by omega⟩
        obtain ⟨⟨y1, y2, y3, y4⟩, y5⟩ := w3
        refine st137 (W := W) (X := rX h) hL hA hSb oa ⟨by omega, by omega⟩ o3 (fun h4 zb ob w4 => ?_) 81 0 h3 (by decide) (by decide) b80.1 ⟨y1, y4, y5, fun F hF => by omega, fun F _ => by rw [y2]; exact ⟨rfl, rfl, rfl⟩, fun _ F hF => by omega⟩
        obtain ⟨z1, z2, z3, z4, z5, z6⟩ := w4
        have ek : (k : Int) + 1 = ((k + 1 : Nat) : Int) := by omega
        rw [ek]
        have N4 : sp_eq (mi_f hb 13965).toNat (rX h4) (sr_k (GR (mi_a hb)) (k + 1)) := by
          have a : sp_eq (mi_f hb 13965).toNat (rX h4) (sr (GR (mi_a hb)) (rX h)) := fun F hF => z4 F (by omega)
          exact a.trans (sr_eq hG i3)
        refine ih (k + 1) _ _ h4 (by omega) (by omega) (me_oi ob) o3 ⟨z1, N4, fun q => by omega, fun j ej => ?_⟩
        have : j = k := by omega
        subst this
        refine ⟨fun q => ?_, rX h, i3, z2⟩
        have a : sp_eq (mi_f hb 13965).toNat (sr (GR (mi_a hb)) (rX h)) (rX h) := fun F hF => z6 q F (by omega)
        exact ((sr_eq hG i3).symm.trans a).trans i3
end STY
/-! the reference's behind, exactly -/
theorem or_cm (x y : Int64) : x ||| y = y ||| x := tb_ext (fun b => by rw [tb_or, tb_or, Bool.or_comm])
def be_W : List (Nat × Nat) := [(13999, 14000), (17536, 17537), (17664, 17665), (18560, 18561)]
def be_X (X : sp_X) (h : sm_H) (zx : Int64) (us : List sp_P) (w : Option mi_V) (h' : sm_H) : Prop := w = none ∧ ab_Sh sx_sk h' ∧ ab_Fr be_W h h' ∧ mx_b h' 138 = (fun i => mx_b h 138 i ||| sk_c X zx i us) ∧ (mi_f h' 13999 = 0 → mi_f h 13999 = 0 ∧ mx_b h' 138 = mx_b h 138)
section BEX
variable {d : Nat} {h0 : sm_H} {za : Int} {zx : Int64} {X : sp_X} {Y : wk_Y}
theorem bex12 {row : List Int} {W : sp_F} {c0 : Int} (hL : wk_L (mi_a h0) Y) (hS0 : ab_Sh sx_sk h0) (oa : mi_in za) (hlen : (row.length : Int) ≤ 60) (hrow : ∀ x ∈ row, (0 ≤ x ∧ x < wk_u Y) ∧ rq_ok (rv_p (mi_a h0)) X h0 x) : ∀ (N : Nat) (zk : Int) (zg : Int64) (q7 q8 q9 q10 : Option mi_V) (h : sm_H), zk = (N : Int) - 1 → N ≤ row.length → zg = sk_r X zx ((row.drop N).map (rv_p (mi_a h0))) → ab_Sh sx_sk h → ab_Fr be_W h0 h → (∀ k : Nat, k < row.length → some (mi_a h 145 k) = row[k]?) → mx_b h 138 = (fun i => W i ||| sk_c X zx i ((row.drop N).map (rv_p (mi_a h0)))) → (mi_f h 13999 = 0 → c0 = 0 ∧ mx_b h 138 = W) → (∀ v, q7 = some v → mi_ok v) → (∀ v, q8 = some v → mi_ok v) → (∀ v, q9 = some v → mi_ok v) → (∀ v, q10 = some v → mi_ok v) → me_E (d + 1) 200 12 [some (.inr (.inr 109)), some (.inl za), some (.inr (.inl zx)), none, some (.inr (.inl zg)), none, some (.inl zk), q7, q8, q9, q10] [] h (fun w h' => w = none ∧ ab_Sh sx_sk h' ∧ ab_Fr be_W h0 h' ∧ mx_b h' 138 = (fun i => W i ||| sk_c X zx i (row.map (rv_p (mi_a h0)))) ∧ (mi_f h' 13999 = 0 → c0 = 0 ∧ mx_b h' 138 = W)) := by
  have h60 := hL.1
  have h80 := hL.2.1
  intro N
  induction N with
  | zero =>
    intro zk zg q7 q8 q9 q10 h ek hN eg hS hF hr hW hc o7 o8 o9 o10
    refine mt_beC hS oa ⟨by omega, by omega⟩ o7 o8 o9 o10 ?_ ?_ ?_
    · intro c1 h1 g1 g2
      have e0 := me_nil g2
      subst e0
      exact ⟨rfl, hS, hF, hW, hc⟩
    · intro c1; exfalso; omega
    · intro c1; exfalso; omega
  | succ N ih =>
    intro zk zg q7 q8 q9 q10 h ek hN eg hS hF hr hW hc o7 o8 o9 o10
    have ek : zk = (N : Int) := by omega
    have ok : mi_in zk := ⟨by omega, by omega⟩
    have ekn : zk.toNat = N := by omega
    have hlt : N < row.length := by omega
    have hu1 : some (mi_a h 145 N) = row[N]? := hr N hlt
    obtain ⟨u, hu⟩ : ∃ u, u = mi_a h 145 N := ⟨_, rfl⟩
    rw [← hu, List.getElem?_eq_getElem hlt] at hu1
    have hu2 : row[N] = u := (Option.some.inj hu1).symm
    have hm : u ∈ row := by rw [← hu2]; exact List.getElem_mem hlt
    obtain ⟨⟨u0, u1⟩, k1, k2⟩ := hrow u hm
    have edrop : row.drop N = u :: row.drop (N + 1) := by rw [List.drop_eq_getElem_cons hlt, hu2]
    have e145 : mi_a h 145 zk.toNat = u := by rw [ekn]; exact hu.symm
    have e := rv_eq_fr hF hS0 (by rfl)
    have p131 : mi_a h 131 u.toNat = sp_v X (rv_p (mi_a h0) u) := (me_a (k := 131) hF hS0 rfl rfl).trans k1
    have p134 : mx_b h 134 u.toNat = sp_s X (rv_p (mi_a h0) u) := (me_b (k := 134) hF hS0 rfl rfl).trans k2
    obtain ⟨-, -, -, a6, a7, a8⟩ := hL.2.2.1 u u0 u1
    have ou : mi_in u := ⟨by omega, by omega⟩
    have w122 : (rv_p (mi_a h0) u).2.2.1 = (if 0 < mi_a h 122 u.toNat then (if mi_a h 122 u.toNat = 1 then (1 : Int) else 2) else 0) := by
      rw [e 122 (by decide)]
      rfl
    have nt : (rv_p (mi_a h0) u).1 = -1 ∨ (0 ≤ (rv_p (mi_a h0) u).1 ∧ (rv_p (mi_a h0) u).1 < 80) := by
      show rv_t (mi_a h0) u = -1 ∨ (0 ≤ rv_t (mi_a h0) u ∧ rv_t (mi_a h0) u < 80)
      unfold rv_t
      by_cases c10 : mi_a h0 119 u.toNat = 10
      · rw [if_pos c10]
        have := a7 c10
        omega
      · rw [if_neg c10]
        by_cases c9 : mi_a h0 119 u.toNat = 9
        · rw [if_pos c9]
          obtain ⟨-, -, -, -, b5, b6, -⟩ := a6 c9
          have b5 : 0 ≤ mi_a h0 114 (mi_a h0 115 (mi_a h0 120 u.toNat).toNat).toNat := b5
          have b6 : mi_a h0 114 (mi_a h0 115 (mi_a h0 120 u.toNat).toNat).toNat < wk_f Y := b6
          omega
        · rw [if_neg c9]
          exact Or.inl rfl
    /- from 63 on -/
    have t63 : ∀ (zi : Int64) (h1 : sm_H), zi = sk_i X zx (rv_p (mi_a h0) u) ((row.drop (N + 1)).map (rv_p (mi_a h0))) → ab_Sh sx_sk h1 → ab_Fr [(17536, 17537)] h h1 → me_E (d + 1) 200 63 [some (.inr (.inr 109)), some (.inl za), some (.inr (.inl zx)), none, some (.inr (.inl zg)), none, some (.inl zk), some (.inl u), some (.inr (.inl zi)), none, q10] [] h1 (fun w h' => w = none ∧ ab_Sh sx_sk h' ∧ ab_Fr be_W h0 h' ∧ mx_b h' 138 = (fun i => W i ||| sk_c X zx i (row.map (rv_p (mi_a h0)))) ∧ (mi_f h' 13999 = 0 → c0 = 0 ∧ mx_b h' 138 = W)) := by
      intro zi h1 ei s1 s2
      have F1 : ab_Fr be_W h0 h1 := hF.trans (s2.wide (fun c hc => ab_swr_ok (by decide) hc))
      have e1 := rv_eq_fr F1 hS0 (by rfl)
      have W1 : ∀ i, mx_b h1 138 i = mx_b h 138 i := fun i => me_b (k := 138) s2 hS rfl rfl
      have c99 : mi_f h1 13999 = mi_f h 13999 := me_f (c := 13999) s2 hS rfl rfl
      have t120 : ∀ zn, zn = (rv_p (mi_a h0) u).1 → me_E (d + 1) 200 120 [some (.inr (.inr 109)), some (.inl za), some (.inr (.inl zx)), none, some (.inr (.inl zg)), none, some (.inl zk), some (.inl u), some (.inr (.inl zi)), none, some (.inl zn)] [] h1 (fun w h' => w = none ∧ ab_Sh sx_sk h' ∧ ab_Fr be_W h0 h' ∧ mx_b h' 138 = (fun i => W i ||| sk_c X zx i (row.map (rv_p (mi_a h0)))) ∧ (mi_f h' 13999 = 0 → c0 = 0 ∧ mx_b h' 138 = W)) := by
        intro zn en
        rw [← en] at nt
        have on : mi_in zn := ⟨by omega, by omega⟩
        /- the next part -/
        have fin : ∀ h3, ab_Sh sx_sk h3 → ab_Fr [(13999, 14000), (17664, 17665)] h1 h3 → (∀ i, mx_b h3 138 i = mx_b h1 138 i ||| (if (rv_p (mi_a h0) u).1 = i then zi else 0)) → (mi_f h3 13999 = 0 → mi_f h1 13999 = 0 ∧ mx_b h3 138 = mx_b h1 138) → ∃ Q1, me_E (d + 0) 198 0 (mi_entry 2 [.inr (.inr 109), .inl u]) [] h3 Q1 ∧ ∀ w h4, (∀ v, w = some v → mi_ok v) → Q1 w h4 → me_E (d + 1) 200 183 [some (.inr (.inr 109)), some (.inl za), some (.inr (.inl zx)), none, some (.inr (.inl zg)), none, some (.inl zk), some (.inl u), some (.inr (.inl zi)), none, some (.inl zn)] (mi_back w []) h4 (fun w h' => w = none ∧ ab_Sh sx_sk h' ∧ ab_Fr be_W h0 h' ∧ mx_b h' 138 = (fun i => W i ||| sk_c X zx i (row.map (rv_p (mi_a h0)))) ∧ (mi_f h' 13999 = 0 → c0 = 0 ∧ mx_b h' 138 = W)) := by
          intro h3 t1 t2 t3 t4
          have F13 : ab_Fr be_W h h3 := (s2.wide (fun c hc => ab_swr_ok (by decide) hc)).trans (t2.wide (fun c hc => ab_swr_ok (by decide) hc))
          have F3 : ab_Fr be_W h0 h3 := hF.trans F13
          have r3 : ∀ k : Nat, k < row.length → some (mi_a h3 145 k) = row[k]? := fun k hk => by
            rw [me_a (k := 145) t2 s1 rfl rfl, me_a (k := 145) s2 hS rfl rfl]
            exact hr k hk
          have a131 : mi_a h3 131 u.toNat = sp_v X (rv_p (mi_a h0) u) := (me_a (k := 131) F13 hS rfl rfl).trans p131
          have a134 : mx_b h3 134 u.toNat = sp_s X (rv_p (mi_a h0) u) := (me_b (k := 134) F13 hS rfl rfl).trans p134
          have a122 : mi_a h3 122 u.toNat = mi_a h 122 u.toNat := me_a (k := 122) F13 hS rfl rfl
          have W3 : mx_b h3 138 = (fun i => W i ||| sk_c X zx i ((row.drop N).map (rv_p (mi_a h0)))) := by
            funext i
            rw [t3 i, W1 i, hW, edrop, List.map_cons]
            show W i ||| sk_c X zx i ((row.drop (N + 1)).map (rv_p (mi_a h0))) ||| (if (rv_p (mi_a h0) u).1 = i then zi else 0) = W i ||| sk_c X zx i (rv_p (mi_a h0) u :: (row.drop (N + 1)).map (rv_p (mi_a h0)))
            rw [or_as]
            congr 1
            rw [sk_c_c]
            rw [← ei, or_cm]
          refine ⟨_, me_isVoidx (d := d + 0) t1 u0 (by omega), fun w h4 oww hq => ?_⟩
          obtain ⟨rfl, z, rfl, z01, hz⟩ := hq
          have ie : z = 1 ↔ sp_e X (rv_p (mi_a h0) u) := by
            rw [hz, a131, a122]
            show _ ↔ (rv_p (mi_a h0) u).2.2.1 ≠ 0 ∨ _
            rw [w122]
            by_cases c : 0 < mi_a h 122 u.toNat
            · rw [if_pos c]
              exact ⟨fun _ => Or.inl (by split <;> decide), fun _ => Or.inl c⟩
            · rw [if_neg c]
              exact ⟨fun q => q.elim (fun q => absurd q c) Or.inr, fun q => q.elim (fun q => absurd rfl q) Or.inr⟩
          have C3 : mi_f h4 13999 = 0 → c0 = 0 ∧ mx_b h4 138 = W := fun q => by
            obtain ⟨x1, x2⟩ := t4 q
            obtain ⟨x3, x4⟩ := hc (c99.symm.trans x1)
            exact ⟨x3, (x2.trans (funext W1)).trans x4⟩
          refine mt_beG t1 oa ok ou on ⟨by omega, by omega⟩ ?_ ?_
          · intro b0
            refine ⟨by omega, fun h5 g1 g2 => ?_⟩
            have e0 := me_nil g2
            subst e0
            refine ih (zk + (-1)) _ _ _ _ _ h5 (by omega) (by omega) ?_ t1 F3 r3 W3 C3 (me_oi ou) (fun v q => by cases q; trivial) me_on (me_oi on)
            rw [a134, edrop, List.map_cons]
            rw [sk_r_c]
            rw [if_neg (fun q => by have := ie.mpr q; omega)]
          · intro b0
            refine ⟨by omega, fun h5 g1 g2 => ?_⟩
            have e0 := me_nil g2
            subst e0
            refine ih (zk + (-1)) _ _ _ _ _ h5 (by omega) (by omega) ?_ t1 F3 r3 W3 C3 (me_oi ou) (fun v q => by cases q; trivial) me_on (me_oi on)
            rw [a134, edrop, List.map_cons, eg, or_cm]
            show _ = sk_r X zx (rv_p (mi_a h0) u :: (row.drop (N + 1)).map (rv_p (mi_a h0)))
            rw [sk_r, if_pos (ie.mp (by omega))]
        have neg : zn < 0 → ∀ i : Nat, mx_b h1 138 i = mx_b h1 138 i ||| (if (rv_p (mi_a h0) u).1 = i then zi else 0) := fun c i => by rw [if_neg (by omega), or_0r]
        /- the form's follows -/
        have t160 : ∀ h2, ab_Sh sx_sk h2 → ab_Fr [(13999, 14000)] h1 h2 → (mi_f h2 13999 = 0 → mi_f h1 13999 = 0 ∧ (0 ≤ zn → tl zi (mx_b h1 138 zn.toNat))) → me_E (d + 1) 200 160 [some (.inr (.inr 109)), some (.inl za), some (.inr (.inl zx)), none, some (.inr (.inl zg)), none, some (.inl zk), some (.inl u), some (.inr (.inl zi)), none, some (.inl zn)] [] h2 (fun w h' => w = none ∧ ab_Sh sx_sk h' ∧ ab_Fr be_W h0 h' ∧ mx_b h' 138 = (fun i => W i ||| sk_c X zx i (row.map (rv_p (mi_a h0)))) ∧ (mi_f h' 13999 = 0 → c0 = 0 ∧ mx_b h' 138 = W)) := by
          intro h2 t1 t2 t3
          have W2 : ∀ i, mx_b h2 138 i = mx_b h1 138 i := fun i => me_b (k := 138) t2 s1 rfl rfl
          refine mt_beF t1 oa ok ou on ?_ ?_
          · intro b0 h3 g1 g2
            have e0 := me_nil g2
            subst e0
            refine fin h3 t1 (t2.wide (fun c hc => ab_swr_ok (by decide) hc)) (fun i => (W2 i).trans (neg b0 i)) (fun q => ⟨(t3 q).1, funext W2⟩)
          · intro b0
            refine ⟨by omega, fun h3 v1 v2 v3 => fin h3 v1 ((t2.wide (fun c hc => ab_swr_ok (by decide) hc)).trans (v3.wide (fun c hc => ab_swr_ok (by decide) hc))) (fun i => ?_) (fun q => ?_)⟩
            · rw [v2 i, W2, W2]
              by_cases ci : (rv_p (mi_a h0) u).1 = i
              · have ei' : i = zn.toNat := by omega
                rw [if_pos ci, if_pos ei', ei']
              · have ei' : i ≠ zn.toNat := by omega
                rw [if_neg ci, if_neg ei', or_0r]
            · obtain ⟨x1, x2⟩ := t3 ((me_f (c := 13999) v3 t1 rfl rfl).symm.trans q)
              refine ⟨x1, funext fun i => ?_⟩
              rw [v2 i, W2, W2]
              by_cases ci : i = zn.toNat
              · rw [if_pos ci, ci, tl_orr (x2 b0)]
              · rw [if_neg ci]
        refine mt_beE s1 oa ok ou on ?_ ?_ ?_ ?_
        · intro b b0 h2 t1 t2 t3
          exact t160 h2 t1 t3 (fun q => by omega)
        · intro b b0 b1 h2 t1 t2 t3
          exact t160 h2 t1 t3 (fun q => ⟨b0, fun q => by omega⟩)
        · intro b b0 b1 b2
          exact ⟨by omega, fun h2 t1 t2 t3 => t160 h2 t1 t3 (fun q => ⟨b0, fun _ => an_0.mp (lg_eq.mp b2)⟩)⟩
        · intro b b0 b1 b2
          exact ⟨by omega, fun h2 t1 t2 t3 => t160 h2 t1 t3 (fun q => by omega)⟩
      have r119 : mi_a h1 119 u.toNat = mi_a h0 119 u.toNat := by rw [e1 119 (by decide)]
      have r120 : mi_a h1 120 = mi_a h0 120 := e1 120 (by decide)
      have r115 : mi_a h1 115 = mi_a h0 115 := e1 115 (by decide)
      have r114 : mi_a h1 114 = mi_a h0 114 := e1 114 (by decide)
      refine mt_beD s1 oa ok ou o10 ?_ ?_ ?_
      · intro b1 b2
        refine ⟨by omega, fun h2 g1 g2 => ?_⟩
        have e0 := me_nil g2
        subst e0
        refine t120 _ ?_
        show -1 = rv_t (mi_a h0) u
        unfold rv_t
        rw [r119] at b1 b2
        rw [if_neg b1, if_neg b2]
      · intro b1 b2
        rw [r119] at b1 b2
        obtain ⟨d1, d2, d3, d4, -⟩ := a6 b2
        rw [r120, r115, r114]
        refine ⟨by omega, fun h2 g1 g2 => ?_⟩
        have e0 := me_nil g2
        subst e0
        refine t120 _ ?_
        show _ = rv_t (mi_a h0) u
        unfold rv_t
        rw [if_neg b1, if_pos b2]
      · intro b1
        rw [r119] at b1
        rw [r120]
        refine ⟨by omega, fun h2 g1 g2 => ?_⟩
        have e0 := me_nil g2
        subst e0
        refine t120 _ ?_
        show _ = rv_t (mi_a h0) u
        unfold rv_t
        rw [if_pos b1]
    refine mt_beC hS oa ok o7 o8 o9 o10 ?_ ?_ ?_
    · intro c1; exfalso; omega
    · intro c1 c2
      rw [e145] at c2 ⊢
      refine ⟨by omega, fun h1 s1 s2 s3 => t63 _ h1 ?_ s1 s3⟩
      unfold sk_i
      rw [w122, if_neg, eg]
      intro q
      by_cases c0' : 0 < mi_a h 122 u.toNat
      · rw [if_pos c0', if_neg c2] at q; exact absurd q (by decide)
      · rw [if_neg c0'] at q; exact absurd q (by decide)
    · intro c1 c2
      rw [e145] at c2 ⊢
      refine ⟨by omega, fun h1 s1 s2 s3 => t63 _ h1 ?_ s1 s3⟩
      unfold sk_i
      rw [w122, if_pos, eg, p134]
      rw [if_pos (by omega), if_pos c2]
theorem me_behindx (hL : wk_L (mi_a h0) Y) (hS0 : ab_Sh sx_sk h0) (a0 : 0 ≤ za) (a1 : za < 80) (hu : mi_a h0 126 za.toNat < 0 ∨ mi_a h0 126 za.toNat < wk_u Y) (hp : ∀ u, 0 ≤ u → u < wk_u Y → rq_ok (rv_p (mi_a h0)) X h0 u) : me_E (d + 1) 200 0 [some (.inr (.inr 109)), some (.inl za), some (.inr (.inl zx)), none, none, none, none, none, none, none, none] [] h0 (be_X X h0 zx (rv_l (mi_a h0) za)) := by
  have oa : mi_in za := ⟨by omega, by omega⟩
  have hC := wk_L_C hL
  refine mt_beA hS0 oa ?_
  intro h1 g1 g2
  have e := me_nil g2
  subst e
  refine ⟨_, me_line g1 hC a0 a1 hu, fun w h2 ow hq => ?_⟩
  obtain ⟨q1, q2, rfl, q4, q5⟩ := hq
  refine mt_beB q1 oa ⟨by omega, by omega⟩ ⟨by omega, fun h3 r1 r2 => ?_⟩
  have e := me_nil r2
  subst e
  have L := bex12 (d := d) (za := za) (zx := zx) (X := X) (row := wk_row (mi_a h1) 61 (mi_a h1 126 za.toNat)) (W := mx_b h1 138) (c0 := mi_f h1 13999) hL hS0 oa q4 (fun x hx => by
    obtain ⟨k, hk⟩ := List.getElem?_of_mem hx
    have := q5 k x hk
    exact ⟨⟨this.2.1, this.2.2⟩, hp x this.2.1 this.2.2⟩) (wk_row (mi_a h1) 61 (mi_a h1 126 za.toNat)).length _ zx none none none none h3 rfl (Nat.le_refl _) (by rw [List.drop_length]; rfl) r1 (q2.wide (fun c hc => ab_swr_ok (by decide) hc)) (fun k hk => by
    have := q5 k _ (List.getElem?_eq_getElem hk)
    rw [List.getElem?_eq_getElem hk, this.1]) (by
    rw [List.drop_length]
    funext i
    show mx_b h3 138 i = mx_b h1 138 i ||| 0
    rw [or_0r]
    exact me_b (k := 138) q2 hS0 rfl rfl) (fun q => ⟨(me_f (c := 13999) q2 hS0 rfl rfl).symm.trans q, funext fun i => me_b (k := 138) q2 hS0 rfl rfl⟩) me_on me_on me_on me_on
  exact L
end BEX
/-! the reference's study, exactly: what follows -/
theorem s277x {d : Nat} {h0 : sm_H} : ∀ (N : Nat) (za : Int) (q2 q3 : Option mi_V) (h : sm_H), 10 - za < N → 0 ≤ za → za ≤ 10 → (∀ v, q2 = some v → mi_ok v) → (∀ v, q3 = some v → mi_ok v) → ab_Sh sx_sk h → ab_Fr [(14848, 14849)] h0 h → me_E (d + 3) 194 277 [some (.inr (.inr 109)), some (.inl za), q2, q3] [] h (fun w h' => w = none ∧ ab_Sh sx_sk h' ∧ ab_Fr [(14848, 14849)] h0 h') := by
  intro N
  induction N with
  | zero => intro za q2 q3 h hN _ _; exfalso; omega
  | succ N ih =>
    intro za q2 q3 h hN a0 a1 o2 o3 hS hF
    have oa : mi_in za := ⟨by omega, by omega⟩
    have s287 : za < 10 → ∀ (M : Nat) (zb : Int) (h : sm_H), 10 - zb < M → 0 ≤ zb → zb ≤ 10 → ab_Sh sx_sk h → ab_Fr [(14848, 14849)] h0 h → me_E (d + 3) 194 287 [some (.inr (.inr 109)), some (.inl za), some (.inl zb), q3] [] h (fun w h' => w = none ∧ ab_Sh sx_sk h' ∧ ab_Fr [(14848, 14849)] h0 h') := by
      intro lt M
      induction M with
      | zero => intro zb h hM _ _; exfalso; omega
      | succ M im =>
        intro zb h hM b0 b1 hS hF
        have ob : mi_in zb := ⟨by omega, by omega⟩
        refine mt_stP hS oa ob o3 ?_ ?_ ?_
        · intro b c
          refine ⟨by omega, fun h1 g1 g2 => ?_⟩
          have e := me_nil g2
          subst e
          exact ih (za + 1) _ _ _ (by omega) (by omega) (by omega) (me_oi ob) o3 g1 hF
        · intro b c1 c2
          exact ⟨by omega, fun h1 g1 g2 g3 => im (zb + 1) h1 (by omega) (by omega) (by omega) g1 (hF.trans g3)⟩
        · intro b c1 c2
          exact ⟨by omega, fun h1 g1 g2 g3 => im (zb + 1) h1 (by omega) (by omega) (by omega) g1 (hF.trans g3)⟩
    refine mt_stO hS oa o2 o3 ?_ ?_
    · intro b c h1 g1 g2
      have e := me_nil g2
      subst e
      exact ⟨rfl, g1, hF⟩
    · intro b c h1 g1 g2
      have e := me_nil g2
      subst e
      exact s287 (by omega) 20 0 _ (by omega) (by decide) (by decide) g1 hF
theorem s244x {d : Nat} {h0 : sm_H} {Y : wk_Y} (hL : sy_L h0 Y) (hS0 : ab_Sh sx_sk h0) : ∀ (N : Nat) (za : Int) (q2 q3 : Option mi_V) (h : sm_H), 10 - za < N → 0 ≤ za → za ≤ 10 → (∀ v, q2 = some v → mi_ok v) → (∀ v, q3 = some v → mi_ok v) → ab_Sh sx_sk h → ab_Fr [(14848, 14849)] h0 h → me_E (d + 3) 194 244 [some (.inr (.inr 109)), some (.inl za), q2, q3] [] h (fun w h' => w = none ∧ ab_Sh sx_sk h' ∧ ab_Fr [(14848, 14849)] h0 h') := by
  intro N
  induction N with
  | zero => intro za q2 q3 h hN _ _; exfalso; omega
  | succ N ih =>
    intro za q2 q3 h hN a0 a1 o2 o3 hS hF
    have oa : mi_in za := ⟨by omega, by omega⟩
    have hL1 := sy_L_fr hL hS0 (hF.wide (fun c hc => ab_swr_ok (by decide) hc))
    have h80 := hL1.1.2.1
    refine mt_stN hS oa o2 o3 ?_ ?_
    · intro b c h1 g1 g2
      have e := me_nil g2
      subst e
      exact s277x 20 0 _ _ _ (by decide) (by decide) (by decide) o2 o3 g1 hF
    · intro b c
      have := hL1.2.2.2.2 za a0 c
      exact ⟨by omega, fun h1 g1 g2 g3 => ih (za + 1) _ _ h1 (by omega) (by omega) (by omega) o2 o3 g1 (hF.trans g3)⟩
/-- what study leaves -/
def sz_Q (hb : sm_H) (w : Option mi_V) (h' : sm_H) : Prop := w = none ∧ ab_Sh sx_sk h' ∧ ab_Fr sy_W hb h' ∧ ∃ (j k : Nat) (W0 : sp_F), sp_eq (mi_f hb 13965).toNat (rX h') (sr_k (GR (mi_a hb)) j) ∧ sp_fix (mi_f hb 13965).toNat (GR (mi_a hb)) (sr_k (GR (mi_a hb)) j) ∧ (∀ i : Nat, (i : Int) < mi_f hb 13965 → W0 i = if (i : Int) = mi_a hb 114 0 then 1 else 0) ∧ (∀ i : Nat, mx_b h' 138 i = sk_k (sr_k (GR (mi_a hb)) j) (GR (mi_a hb)) (mi_f hb 13965).toNat W0 k i) ∧ sw_sol (sr_k (GR (mi_a hb)) j) (mi_f hb 13965).toNat (GR (mi_a hb)) (sk_k (sr_k (GR (mi_a hb)) j) (GR (mi_a hb)) (mi_f hb 13965).toNat W0 k)
section STZ
variable {d : Nat} {hb h0 : sm_H} {Y : wk_Y} {X : sp_X} {Q : Option mi_V → sm_H → Prop}
/-- what does not change in the second rounds -/
def sz_B (hb : sm_H) (X : sp_X) (h0 h : sm_H) : Prop := ab_Sh sx_sk h ∧ ab_Fr sy_W hb h ∧ ab_Fr be_W h0 h ∧ ∀ u : Int, 0 ≤ u → u < mi_f hb 13963 → rq_ok (rv_p (mi_a hb)) X h u
theorem sz_B_fr {h h' : sm_H} {wr : List (Nat × Nat)} (hB : sz_B hb X h0 h) (hS : ab_Sh sx_sk h') (hF : ab_Fr wr h h') (hw : ∀ c, ab_in wr c = true → ab_in be_W c = true) : sz_B hb X h0 h' := by
  obtain ⟨b1, b2, b3, b4⟩ := hB
  have F : ab_Fr be_W h h' := hF.wide hw
  refine ⟨hS, b2.trans (F.wide (fun c hc => ab_swr_ok (by decide) hc)), b3.trans F, fun u u0 u1 => ?_⟩
  obtain ⟨x1, x2⟩ := b4 u u0 u1
  exact ⟨(me_a (k := 131) F b1 rfl rfl).trans x1, (me_b (k := 134) F b1 rfl rfl).trans x2⟩
theorem sz205 {za : Int} {F : Nat} {Wk WN : sp_F} {n c : Nat} (hL : sy_L hb Y) (hSb : ab_Sh sx_sk hb) (hF : (F : Int) < mi_f hb 13965) (oa : mi_in za) (K : ∀ h zb zc, zb = (F : Int) + 1 → mi_in zc → sz_B hb X h0 h → sk_p X (GR (mi_a hb)) c (F + 1) (mx_b h 138) = WN → (mi_f h 13999 = 0 → mx_b h 138 = Wk) → me_E (d + 3) 194 190 [some (.inr (.inr 109)), some (.inl za), some (.inl zb), some (.inl zc)] [] h Q) : ∀ (m j : Nat) (zc : Int) (h : sm_H), j + m = (mi_a hb 130 F).toNat → zc = wk_alt (mi_a hb) j (mi_a hb 129 F) → mi_in zc → sz_B hb X h0 h → sk_p X (GR (mi_a hb)) c (F + 1) (sk_f X F (rv_as (mi_a hb) m zc) (mx_b h 138)) = WN → (mi_f h 13999 = 0 → mx_b h 138 = Wk) → me_E (d + 3) 194 205 [some (.inr (.inr 109)), some (.inl za), some (.inl (F : Int)), some (.inl zc)] [] h Q := by
  have b80 := me_fb (c := 13965) hSb rfl
  have hF' : (F : Int) < wk_f Y := by rw [hL.2.2.1]; exact hF
  obtain ⟨-, -, c1, c2, -, c3⟩ := hL.1.2.2.2 F (by omega) hF'
  have of : mi_in (F : Int) := ⟨by omega, by omega⟩
  intro m
  induction m with
  | zero =>
    intro j zc h hj ezc oc hB hW hk
    have neg : zc < 0 := by
      have ej : j = (mi_a hb 130 ((F : Int)).toNat).toNat := by show j = (mi_a hb 130 F).toNat; omega
      have c2 : wk_alt (mi_a hb) (mi_a hb 130 F).toNat (mi_a hb 129 F) < 0 := c2
      have ej : j = (mi_a hb 130 F).toNat := ej
      rw [← ej, ← ezc] at c2
      exact c2
    refine mt_stL hB.1 oa of oc ?_ ?_
    · intro k1
      refine ⟨⟨by omega, by omega⟩, fun h1 g1 g2 => ?_⟩
      have e0 := me_nil g2
      subst e0
      exact K h1 _ _ rfl oc hB hW hk
    · intro k1; exfalso; omega
  | succ m ih =>
    intro j zc h hj ezc oc hB hW hk
    have lt : (j : Int) < mi_a hb 130 F := by omega
    have bd := c3 j lt
    have bd : 0 ≤ wk_alt (mi_a hb) j (mi_a hb 129 F) ∧ wk_alt (mi_a hb) j (mi_a hb 129 F) < 80 ∧ (mi_a hb 126 (wk_alt (mi_a hb) j (mi_a hb 129 F)).toNat < 0 ∨ (mi_a hb 126 (wk_alt (mi_a hb) j (mi_a hb 129 F)).toNat < wk_u Y ∧ _)) := bd
    rw [← ezc] at bd
    obtain ⟨b1, b2, b3, b4⟩ := id hB
    have e : rv_eq hb h := rv_eq_fr b2 hSb rfl
    have hL1 := sy_L_fr hL hSb b2
    have e63 : mi_f h 13963 = mi_f hb 13963 := me_f (c := 13963) b2 hSb rfl rfl
    refine mt_stL b1 oa of oc ?_ ?_
    · intro k1; exfalso; omega
    · intro k1
      refine ⟨by omega, fun h1 g1 g2 => ?_⟩
      have e0 := me_nil g2
      subst e0
      refine ⟨_, me_behindx (d := d + 1) (X := X) (zx := mx_b h1 138 F) hL1.1 b1 bd.1 bd.2.1 (by rw [e 126 (by decide)]; rcases bd.2.2 with q | q <;> omega) (fun u u0 u1 => by rw [e.p]; exact b4 u u0 (by rw [hL1.2.1, e63] at u1; exact u1)), fun w h2 oww hq => ?_⟩
      obtain ⟨rfl, r2, r3, r4, r5⟩ := hq
      rw [e.l] at r4
      have B2 := sz_B_fr hB r2 r3 (fun _ hc => hc)
      have e2 : rv_eq hb h2 := rv_eq_fr B2.2.1 hSb rfl
      refine mt_stM r2 oa of oc ⟨by omega, fun h3 g1 g2 => ?_⟩
      have e0 := me_nil g2
      subst e0
      have e128 : mi_a h3 128 zc.toNat = mi_a hb 128 zc.toNat := by rw [e2 128 (by decide)]
      rw [e128]
      refine ih (j + 1) _ h3 (by omega) (by rw [wk_alt_succ, ezc]) (mi_inT _) B2 ?_ (fun q => ?_)
      · rw [r4]
        exact hW
      · obtain ⟨x1, x2⟩ := r5 q
        exact x2.trans (hk x1)
theorem sz190 {za : Int} {Wk WN : sp_F} (hL : sy_L hb Y) (hSb : ab_Sh sx_sk hb) (oa : mi_in za) (oa1 : mi_in (za + 1)) (K : ∀ h q2 q3, (∀ v, q2 = some v → mi_ok v) → (∀ v, q3 = some v → mi_ok v) → sz_B hb X h0 h → mx_b h 138 = WN → (mi_f h 13999 = 0 → mx_b h 138 = Wk) → me_E (d + 3) 194 169 [some (.inr (.inr 109)), some (.inl (za + 1)), q2, q3] [] h Q) : ∀ (c F : Nat) (q3 : Option mi_V) (h : sm_H), F + c = (mi_f hb 13965).toNat → (∀ v, q3 = some v → mi_ok v) → sz_B hb X h0 h → sk_p X (GR (mi_a hb)) c F (mx_b h 138) = WN → (mi_f h 13999 = 0 → mx_b h 138 = Wk) → me_E (d + 3) 194 190 [some (.inr (.inr 109)), some (.inl za), some (.inl (F : Int)), q3] [] h Q := by
  have b80 := me_fb (c := 13965) hSb rfl
  intro c
  induction c with
  | zero =>
    intro F q3 h hc o3 hB hW hk
    have of : mi_in (F : Int) := ⟨by omega, by omega⟩
    have e65 : mi_f h 13965 = mi_f hb 13965 := me_f (c := 13965) hB.2.1 hSb rfl rfl
    refine mt_stK hB.1 oa of o3 ?_ ?_
    · intro b c1
      refine ⟨oa1, fun h1 g1 g2 => ?_⟩
      have e0 := me_nil g2
      subst e0
      exact K h1 _ _ (me_oi of) o3 hB hW hk
    · intro b c1; exfalso; omega
  | succ c ih =>
    intro F q3 h hc o3 hB hW hk
    have of : mi_in (F : Int) := ⟨by omega, by omega⟩
    have e65 : mi_f h 13965 = mi_f hb 13965 := me_f (c := 13965) hB.2.1 hSb rfl rfl
    have e : rv_eq hb h := rv_eq_fr hB.2.1 hSb rfl
    refine mt_stK hB.1 oa of o3 ?_ ?_
    · intro b c1; exfalso; omega
    · intro b c1
      refine ⟨by omega, fun h1 g1 g2 => ?_⟩
      have e0 := me_nil g2
      subst e0
      have e129 : mi_a h1 129 ((F : Int)).toNat = mi_a hb 129 F := by rw [e 129 (by decide)]; rfl
      rw [e129]
      exact sz205 (Wk := Wk) (WN := WN) (c := c) (n := 0) hL hSb (by omega) oa (fun h2 zb zc ez oc hB2 hW2 hk2 => by
        rw [ez]
        exact ih (F + 1) _ h2 (by omega) (me_oi oc) hB2 hW2 hk2) (mi_a hb 130 F).toNat 0 _ h1 (by omega) rfl (mi_inT _) hB hW hk
theorem sz169 {W0 : sp_F} (hL : sy_L hb Y) (hSb : ab_Sh sx_sk hb) (K : ∀ h j q2 q3, (∀ v, q2 = some v → mi_ok v) → (∀ v, q3 = some v → mi_ok v) → sz_B hb X h0 h → mx_b h 138 = sk_k X (GR (mi_a hb)) (mi_f hb 13965).toNat W0 j → sw_sol X (mi_f hb 13965).toNat (GR (mi_a hb)) (sk_k X (GR (mi_a hb)) (mi_f hb 13965).toNat W0 j) → me_E (d + 3) 194 244 [some (.inr (.inr 109)), some (.inl 0), q2, q3] [] h Q) : ∀ (N k : Nat) (q2 q3 : Option mi_V) (h : sm_H), 900 - k < N → k ≤ 900 → (∀ v, q2 = some v → mi_ok v) → (∀ v, q3 = some v → mi_ok v) → sz_B hb X h0 h → mx_b h 138 = sk_k X (GR (mi_a hb)) (mi_f hb 13965).toNat W0 k → (k = 0 → mi_f h 13999 ≠ 0) → (∀ j, k = j + 1 → mi_f h 13999 = 0 → sk_k X (GR (mi_a hb)) (mi_f hb 13965).toNat W0 (j + 1) = sk_k X (GR (mi_a hb)) (mi_f hb 13965).toNat W0 j) → me_E (d + 3) 194 169 [some (.inr (.inr 109)), some (.inl (k : Int)), q2, q3] [] h Q := by
  have b80 := me_fb (c := 13965) hSb rfl
  intro N
  induction N with
  | zero => intro k q2 q3 h hN; exfalso; omega
  | succ N ih =>
    intro k q2 q3 h hN hk o2 o3 hB hW hc0 hc1
    have oa : mi_in (k : Int) := ⟨by omega, by omega⟩
    refine mt_stJ hB.1 oa o2 o3 ?_ ?_ ?_
    · intro c1 h1 g1 g2
      have e0 := me_nil g2
      subst e0
      exact K h1 k q2 q3 o2 o3 hB hW (sk_sol (sk_k_stop (by omega)))
    · intro b c1 c2 h1 g1 g2
      have e0 := me_nil g2
      subst e0
      cases k with
      | zero => exact absurd c2 (hc0 rfl)
      | succ j =>
        have E := hc1 j rfl c2
        exact K h1 j q2 q3 o2 o3 hB (hW.trans E) (sk_sol (fun i hi => congrFun E i))
    · intro b c1 c2 h1 s1 s2 s3
      have B1 := sz_B_fr hB s1 s3 (fun c hc => ab_swr_ok (by decide) hc)
      have e81 : mx_b h1 138 = mx_b h 138 := funext fun i => me_b (k := 138) s3 hB.1 rfl rfl
      refine sz190 (WN := sk_k X (GR (mi_a hb)) (mi_f hb 13965).toNat W0 (k + 1)) (Wk := sk_k X (GR (mi_a hb)) (mi_f hb 13965).toNat W0 k) hL hSb oa ⟨by omega, by omega⟩ (fun h2 q2 q3 o2 o3 hB2 hW2 hk2 => ?_) (mi_f hb 13965).toNat 0 _ h1 (by omega) o3 B1 ?_ (fun _ => by rw [e81]; exact hW)
      · have ek : (k : Int) + 1 = ((k + 1 : Nat) : Int) := by omega
        rw [ek]
        refine ih (k + 1) _ _ h2 (by omega) (by omega) o2 o3 hB2 hW2 (fun q => by omega) (fun j ej q => ?_)
        have : j = k := by omega
        subst this
        exact hW2.symm.trans (hk2 q)
      · rw [e81, hW]
        rfl
theorem st2x (hL : sy_L hb Y) (hA : sy_A hb) (hSb : ab_Sh sx_sk hb) (K : ∀ (h : sm_H) (q2 q3 : Option mi_V), (∀ v, q2 = some v → mi_ok v) → (∀ v, q3 = some v → mi_ok v) → ab_Sh sx_sk h → ab_Fr sy_W hb h → (∀ i : Nat, (i : Int) < mi_f hb 13965 → mi_a h 133 i = 0 ∧ mx_b h 136 i = 0 ∧ mi_a h 144 i = 1000 ∧ mx_b h 138 i = if (i : Int) = mi_a hb 114 0 then 1 else 0) → mi_f h 13999 = 1 → me_E (d + 3) 194 74 [some (.inr (.inr 109)), some (.inl 0), q2, q3] [] h Q) : ∀ (N : Nat) (za : Int) (q2 q3 : Option mi_V) (h : sm_H), 80 - za < N → 0 ≤ za → za ≤ mi_f hb 13965 → (∀ v, q2 = some v → mi_ok v) → (∀ v, q3 = some v → mi_ok v) → ab_Sh sx_sk h → ab_Fr sy_W hb h → (∀ i : Nat, (i : Int) < za → mi_a h 133 i = 0 ∧ mx_b h 136 i = 0 ∧ mi_a h 144 i = 1000 ∧ mx_b h 138 i = if (i : Int) = mi_a hb 114 0 then 1 else 0) → me_E (d + 3) 194 2 [some (.inr (.inr 109)), some (.inl za), q2, q3] [] h Q := by
  have b80 := me_fb (c := 13965) hSb rfl
  intro N
  induction N with
  | zero => intro za q2 q3 h hN a0 a1; exfalso; omega
  | succ N ih =>
    intro za q2 q3 h hN a0 a1 o2 o3 hS hF hv
    have oa : mi_in za := ⟨by omega, by omega⟩
    have e65 : mi_f h 13965 = mi_f hb 13965 := me_f (c := 13965) hF hSb rfl rfl
    have e114 : mi_a h 114 (Int.toNat 0) = mi_a hb 114 0 := me_a (k := 114) hF hSb rfl rfl
    refine mt_stB hS oa o2 o3 ?_ ?_ ?_
    · intro b c1 h1 s1 s2 s3
      refine K h1 q2 q3 o2 o3 s1 (hF.trans (s3.wide (fun c hc => ab_swr_ok (by decide) hc))) (fun i hi => ?_) s2
      rw [me_a (k := 133) s3 hS rfl rfl, me_b (k := 136) s3 hS rfl rfl, me_a (k := 144) s3 hS rfl rfl, me_b (k := 138) s3 hS rfl rfl]
      exact hv i (by omega)
    · intro b c1 c2
      refine ⟨by omega, fun h1 s1 s2 s3 s4 s5 s6 s7 => ih (za + 1) _ _ h1 (by omega) (by omega) (by omega) o2 o3 s1 (hF.trans (s7.wide (fun c hc => ab_swr_ok (by decide) hc))) (fun i hi => ?_)⟩
      rw [s2, s4, s5, s6]
      by_cases ci : i = za.toNat
      · rw [if_pos ci, if_pos ci, if_pos ci, if_pos ci, if_neg (by rw [e114] at c2; omega)]
        exact ⟨rfl, rfl, rfl, rfl⟩
      · rw [if_neg ci, if_neg ci, if_neg ci, if_neg ci]
        exact hv i (by omega)
    · intro b c1 c2
      refine ⟨by omega, fun h1 s1 s2 s3 s4 s5 s6 s7 => ih (za + 1) _ _ h1 (by omega) (by omega) (by omega) o2 o3 s1 (hF.trans (s7.wide (fun c hc => ab_swr_ok (by decide) hc))) (fun i hi => ?_)⟩
      rw [s2, s4, s5, s6]
      by_cases ci : i = za.toNat
      · rw [if_pos ci, if_pos ci, if_pos ci, if_pos ci, if_pos (by rw [e114] at c2; omega)]
        exact ⟨rfl, rfl, rfl, rfl⟩
      · rw [if_neg ci, if_neg ci, if_neg ci, if_neg ci]
        exact hv i (by omega)
theorem me_studyx (hL : sy_L hb Y) (hA : sy_A hb) (hSb : ab_Sh sx_sk hb) : me_E (d + 3) 194 0 [some (.inr (.inr 109)), none, none, none] [] hb (sz_Q hb) := by
  have b80 := me_fb (c := 13965) hSb rfl
  refine mt_stA hSb (fun h1 g1 g2 => ?_)
  have e0 := me_nil g2
  subst e0
  refine st2x hL hA hSb (fun h2 q2 q3 o2 o3 s1 s2 s3 s4 => ?_) 81 0 none none h1 (by decide) (by decide) b80.1 me_on me_on hSb ab_Fr.refl (fun i hi => by omega)
  refine st74 (W := mx_b h2 138) hL hA hSb (fun h3 j q2 q3 o2 o3 hj t1 => ?_) 901 0 q2 q3 h2 (by decide) (by decide) o2 o3 ⟨⟨s1, s2, rfl⟩, fun F hF => ?_, fun _ => by omega, fun j ej => by omega⟩
  · obtain ⟨⟨b1, b2, b3⟩, j2, j3, j4⟩ := hj
    refine sz169 (X := sr_k (GR (mi_a h1)) j) (h0 := h3) (W0 := mx_b h2 138) hL hSb (fun h4 k q2 q3 o2 o3 hB hW hs => ?_) 901 0 q2 q3 h3 (by decide) (by decide) o2 o3 ⟨b1, b2, ab_Fr.refl, j4⟩ b3 (fun _ => by omega) (fun j ej => by omega)
    have hL4 := sy_L_fr hL hSb hB.2.1
    refine (s244x hL4 hB.1 20 0 q2 q3 h4 (by decide) (by decide) (by decide) o2 o3 hB.1 ab_Fr.refl).imp (fun w h' hq => ?_)
    obtain ⟨r1, r2, r3⟩ := hq
    refine ⟨r1, r2, hB.2.1.trans (r3.wide (fun c hc => ab_swr_ok (by decide) hc)), j, k, mx_b h2 138, ?_, j3, fun i hi => (s3 i hi).2.2.2, fun i => ?_, hs⟩
    · rw [rX_fr r3 hB.1 rfl, rX_fr hB.2.2.1 b1 rfl]
      exact j2
    · rw [me_b (k := 138) r3 hB.1 rfl rfl, hW]
  · obtain ⟨x1, x2, x3, -⟩ := s3 F (by omega)
    exact ⟨x1, x2, x3⟩
end STZ
/-! the class's rows and the reference's are the same system -/
def fm_of (f : Int → Int) (F : Nat) : Nat := (f F).toNat
/-- the class's rows, plainly -/
def TC (f : Int → Int) (ow : Nat → Nat) (g : wk_g) (h : sm_H) : Prop :=
  (∀ x : Nat, (x : Int) < g 0 2 → mi_a h 63 (f x).toNat = g 129 x ∧ mi_a h 64 (f x).toNat = g 130 x) ∧
  (∀ j : Nat, j < 70 → (∀ x : Nat, (x : Int) < g 0 2 → f x ≠ j) → mi_a h 64 j = 0) ∧
  (∀ a : Nat, (a : Int) < g 0 1 → mi_a h 65 a = g 126 a ∧ mi_a h 66 a = g 128 a) ∧
  (∀ u : Nat, (u : Int) < g 0 0 → mi_a h 68 u = g 119 u ∧ mi_a h 69 u = (if g 119 u = 9 then g 115 (g 120 u).toNat else if g 119 u = 10 then f (g 120 u) else g 120 u) ∧ mi_a h 71 u = cq_n ow g u ∧ mi_a h 72 u = (if g 122 u = 0 then 0 else g 122 u + 4)) ∧
  (∀ u : Nat, (u : Int) < g 0 0 → (g 119 u = 10 → 0 ≤ g 120 u ∧ g 120 u < g 0 2) ∧ (g 119 u = 9 → 0 ≤ g 120 u ∧ g 120 u < 26)) ∧
  (∀ v : Nat, v < 26 → 0 ≤ g 115 v → g 115 v < g 0 3) ∧ mi_f h 7680 = g 0 3
/-- what both reads leave, in one heap -/
def TW (f : Int → Int) (ow : Nat → Nat) (g : wk_g) (Y : wk_Y) (h : sm_H) : Prop := ab_Sh sx_sk h ∧ RQ g h ∧ TC f ow g h ∧ PR ow g ∧ FI f g ∧ PV 240 g ∧ PW g ∧ rz_U g ∧ sy_L h Y ∧ g 0 1 ≤ g 0 0
section TWO
variable {f : Int → Int} {ow : Nat → Nat} {g : wk_g} {Y : wk_Y} {h : sm_H}
theorem TC_of (hU : CU f ow g (g 0 0) h) : TC f ow g h := by
  obtain ⟨h0, s0, ⟨⟨c0, c1, c2, c3, c4⟩, d1, d2, d3, d4, d5, d6, d7, d8, d9, dw⟩, hF, h69⟩ := hU
  have a : ∀ k i, (mx_isA sx_sk k || mx_isB sx_sk k) = true → ab_in nu_W (k * 128) = false → mi_a h k i = mi_a h0 k i := fun k i x1 x2 => me_a (k := k) hF s0 x1 x2
  refine ⟨fun x hx => ?_, fun j hj hn => ?_, fun a' ha => ?_, fun u hu => ?_, d9, fun v hv hv0 => (d2 v hv hv0).1, (me_f (c := 7680) hF s0 rfl rfl).trans c2⟩
  · rw [a 63 _ rfl rfl, a 64 _ rfl rfl]
    exact d4 x hx
  · rw [a 64 _ rfl rfl]
    exact (d5 j hj hn).2
  · rw [a 65 _ rfl rfl, a 66 _ rfl rfl]
    exact ⟨(d6 a' ha).1, (d6 a' ha).2.1⟩
  · obtain ⟨x1, x2, x3, x4, x5, x6⟩ := d7 u hu
    rw [a 68 _ rfl rfl, a 71 _ rfl rfl, a 72 _ rfl rfl, h69 u hu]
    refine ⟨x1, ?_, x4, x5⟩
    by_cases c9 : g 119 u = 9
    · rw [if_pos ⟨c9, hu⟩, if_pos c9]
    · rw [if_neg (fun q => c9 q.1), if_neg c9, x2]
      unfold cq_v
      rw [if_neg c9]
/-- the reference's rows, plainly -/
theorem TW_g (hq : RQ g h) {r : Nat} (hr : r ∈ [114, 115, 119, 120, 122, 124, 125, 126, 128, 129, 130]) : mi_a h r = g r := by
  have k := hr
  simp only [List.mem_cons, List.not_mem_nil, or_false] at k
  funext i
  rcases k with rfl | rfl | rfl | rfl | rfl | rfl | rfl | rfl | rfl | rfl | rfl
  all_goals exact (hq.2.1 _ (by decide) i).symm
theorem TW_f0 (hI : FI f g) {x : Int} (x0 : 0 ≤ x) (x1 : x < g 0 2) : ((fm_of f x.toNat : Nat) : Int) = f x := by
  unfold fm_of
  rw [Int.toNat_of_nonneg x0]
  exact Int.toNat_of_nonneg (hI.2.2.2 x x0 x1).1
theorem TW_p (hq : RQ g h) (hC : TC f ow g h) (hI : FI f g) (hV : PV 240 g) (hZ : rz_U g) {u : Int} (u0 : 0 ≤ u) (u1 : u < g 0 0) : cv_p h u = sn (fm_of f) (rv_p (mi_a h) u) := by
  obtain ⟨x1, x2, x3, x4⟩ := hC.2.2.2.1 u.toNat (by omega)
  obtain ⟨y1, y2⟩ := hC.2.2.2.2.1 u.toNat (by omega)
  obtain ⟨v1, v2, v3, v4⟩ := hV.2.2 u.toNat (by omega)
  have r119 := congrFun (TW_g hq (r := 119) (by decide)) u.toNat
  have r120 := congrFun (TW_g hq (r := 120) (by decide)) u.toNat
  have r122 := congrFun (TW_g hq (r := 122) (by decide)) u.toNat
  have r115 := TW_g hq (r := 115) (by decide)
  have r114 := TW_g hq (r := 114) (by decide)
  have e1 : gf_v h u = if 0 ≤ rv_t (mi_a h) u then ((fm_of f (rv_t (mi_a h) u).toNat : Nat) : Int) else rv_t (mi_a h) u := by
    unfold gf_v rv_t
    rw [x1, x2, r119, r120, r115, r114]
    by_cases c10 : g 119 u.toNat = 10
    · have n9 : g 119 u.toNat ≠ 9 := by omega
      obtain ⟨z0, z1⟩ := y1 c10
      rw [if_pos (Or.inr c10), if_neg n9, if_pos c10, if_pos c10, if_pos z0, TW_f0 hI z0 z1]
    · by_cases c9 : g 119 u.toNat = 9
      · obtain ⟨z0, z1⟩ := y2 c9
        have p0 := hZ u.toNat (by omega) c9
        have p1 := hC.2.2.2.2.2.1 (g 120 u.toNat).toNat (by omega) p0
        obtain ⟨q1, q2⟩ := hI.1 (g 115 (g 120 u.toNat).toNat).toNat (by omega)
        rw [if_pos (Or.inl c9), if_pos c9, if_neg c10, if_pos c9, if_pos q1.1, TW_f0 hI q1.1 q1.2, q2]
        omega
      · rw [if_neg (by omega), if_neg c10, if_neg c9, if_neg (by decide)]
  have e2 : (if mi_a h 72 u.toNat = 0 then (0 : Int) else if mi_a h 72 u.toNat = 5 then 1 else 2) = (if 0 < mi_a h 122 u.toNat then (if mi_a h 122 u.toNat = 1 then 1 else 2) else 0) := by
    rw [x4, r122]
    by_cases c0 : g 122 u.toNat = 0
    · rw [if_pos c0, if_pos rfl, if_neg (c := 0 < g 122 u.toNat) (by omega)]
    · rw [if_neg c0, if_neg (c := g 122 u.toNat + 4 = 0) (by omega), if_pos (c := 0 < g 122 u.toNat) (by omega)]
      by_cases c1 : g 122 u.toNat = 1
      · rw [if_pos (c := g 122 u.toNat + 4 = 5) (by omega), if_pos c1]
      · rw [if_neg (c := g 122 u.toNat + 4 = 5) (by omega), if_neg c1]
  have e3 : pb_s (mi_a h 68 u.toNat) (mi_a h 69 u.toNat) = pb_s (mi_a h 119 u.toNat) (mi_a h 120 u.toNat) := by
    rw [x1, x2, r119, r120]
    unfold pb_s
    by_cases c8 : g 119 u.toNat = 8
    · rw [if_neg (c := g 119 u.toNat = 9) (by omega), if_neg (c := g 119 u.toNat = 10) (by omega)]
    · rw [if_neg (c := g 119 u.toNat = 8) c8, if_neg (c := g 119 u.toNat = 8) c8]
  show (gf_v h u, (if mi_a h 68 u.toNat = 9 then (1 : Int) else 0), (if mi_a h 72 u.toNat = 0 then (0 : Int) else if mi_a h 72 u.toNat = 5 then 1 else 2), pb_v (mi_a h 68 u.toNat), pb_s (mi_a h 68 u.toNat) (mi_a h 69 u.toNat)) = ((if 0 ≤ rv_t (mi_a h) u then ((fm_of f (rv_t (mi_a h) u).toNat : Nat) : Int) else rv_t (mi_a h) u), (if mi_a h 119 u.toNat = 9 then (1 : Int) else 0), (if 0 < mi_a h 122 u.toNat then (if mi_a h 122 u.toNat = 1 then (1 : Int) else 2) else 0), pb_v (mi_a h 119 u.toNat), pb_s (mi_a h 119 u.toNat) (mi_a h 120 u.toNat))
  rw [e1, e2, e3, x1, r119]
/-- the links of the class's parts ascend -/
theorem TW_71 {h2 : sm_H} (hq : RQ g h2) (hC : TC f ow g h) (hP : PR ow g) (hL : sy_L h2 Y) {u : Int} (u0 : 0 ≤ u) (u1 : u < g 0 0) : mi_a h 71 u.toNat = -1 ∨ (u < mi_a h 71 u.toNat ∧ mi_a h 71 u.toNat < g 0 0) := by
  have x3 := (hC.2.2.2.1 u.toNat (by omega)).2.2.1
  have hK := wk_L_C hL.1
  have eU : wk_u Y = g 0 0 := by rw [hL.2.1]; exact hq.1.1.symm
  have r124 := TW_g hq (r := 124) (by decide)
  have r125 := TW_g hq (r := 125) (by decide)
  obtain ⟨p1, p2, p3, p4, p5⟩ := hP.2.1 u.toNat (by omega)
  rw [x3]
  unfold cq_n
  by_cases c4 : 0 ≤ g 124 u.toNat
  · rw [if_pos c4]
    have k := (hK.2 u u0 (by omega)).1
    rw [r124, eU] at k
    have := k c4
    exact Or.inr ⟨this.2.1, this.1⟩
  · rw [if_neg c4]
    have go : ∀ v : Nat, (v : Int) < g 0 0 → (v = u.toNat ∨ g 124 v = u) → g 125 v = -1 ∨ (u < g 125 v ∧ g 125 v < g 0 0) := by
      intro v hv hv2
      obtain ⟨s1, s2, -⟩ := hP.2.1 v hv
      by_cases c5 : 0 ≤ g 125 v
      · have k := (hK.2 (v : Int) (by omega) (by omega)).2
        rw [r124, r125, eU] at k
        have k : g 125 v < g 0 0 ∧ (v : Int) < g 125 v ∧ (0 ≤ g 124 v → g 124 v < g 125 v) := k c5
        refine Or.inr ⟨?_, k.1⟩
        rcases hv2 with q | q
        · omega
        · have := k.2.2 (by omega)
          omega
      · exact Or.inl (by omega)
    rcases p5 with q | ⟨q1, q2⟩
    · rw [q]
      exact go u.toNat (by omega) (Or.inl rfl)
    · exact go (ow u.toNat) q1 (Or.inr (by omega))
theorem TW_u {h2 : sm_H} (hq : RQ g h2) (hC : TC f ow g h) (hP : PR ow g) (hI : FI f g) (hV : PV 240 g) (hZ : rz_U g) (hL : sy_L h2 Y) : cv_u h (g 0 0) := by
  refine ⟨hP.1.1.2, fun u u0 u1 => ⟨TW_71 hq hC hP hL u0 u1, ?_, fun q => ?_⟩⟩
  · obtain ⟨x1, x2, -, -⟩ := hC.2.2.2.1 u.toNat (by omega)
    obtain ⟨y1, y2⟩ := hC.2.2.2.2.1 u.toNat (by omega)
    obtain ⟨⟨b0, b1, b2, b3, b4⟩, -⟩ := hP
    unfold gf_v
    rw [x1, x2]
    by_cases c10 : g 119 u.toNat = 10
    · obtain ⟨z0, z1⟩ := y1 c10
      have := hI.2.2.2 _ z0 z1
      rw [if_pos (Or.inr c10), if_neg (by omega), if_pos c10]
      omega
    · by_cases c9 : g 119 u.toNat = 9
      · obtain ⟨z0, z1⟩ := y2 c9
        have p0 := hZ u.toNat (by omega) c9
        have p1 := hC.2.2.2.2.2.1 (g 120 u.toNat).toNat (by omega) p0
        rw [if_pos (Or.inl c9), if_pos c9]
        omega
      · rw [if_neg (by omega)]
        exact Or.inl rfl
  · obtain ⟨x1, x2, -, -⟩ := hC.2.2.2.1 u.toNat (by omega)
    rw [x1] at q
    rw [x2, if_neg (by omega), if_neg (by omega)]
    exact (hV.2.2 u.toNat (by omega)).2.2.2 q
/-- an alternative's line -/
theorem TW_row (hq : RQ g h) (hC : TC f ow g h) (hP : PR ow g) (hL : sy_L h Y) (hU : cv_u h (g 0 0)) : ∀ (M : Nat) (u : Int), (u = -1 ∨ ((0 ≤ u ∧ u < g 0 0) ∧ ow u.toNat = u.toNat)) → (u ≠ -1 → g 0 0 - u ≤ M) → cv_row h 60 u = wk_row (mi_a h) M u := by
  have r124 := TW_g hq (r := 124) (by decide)
  have r125 := TW_g hq (r := 125) (by decide)
  have hU60 := hU.1
  have fu : ∀ u : Int, 0 ≤ u → u < g 0 0 → cv_row h 60 u = u :: cv_row h 60 (mi_a h 71 u.toNat) := by
    intro u u0 u1
    have w := (hU.2 u u0 u1).1
    rw [cv_row_c, if_neg (by omega), cv_row_fuel hU 59 60 _ (by omega) (fun q => by omega)]
  intro M
  induction M with
  | zero =>
    intro u hu hn
    by_cases c : u = -1
    · rw [cv_row_c, if_pos c]
      rfl
    · have := hn c
      have := (hu.resolve_left c).1
      exfalso
      omega
  | succ M ih =>
    intro u hu hn
    by_cases c : u = -1
    · rw [cv_row_c, if_pos c]
      unfold wk_row
      rw [if_pos (by omega)]
    · have hn := hn c
      obtain ⟨⟨u0, u1⟩, ou⟩ := hu.resolve_left c
      have w := (hU.2 u u0 u1).1
      have x3 := (hC.2.2.2.1 u.toNat (by omega)).2.2.1
      obtain ⟨p1, p2, p3, p4, p5⟩ := hP.2.1 u.toNat (by omega)
      have nx : ∀ z : Int, z = g 125 u.toNat → u < z ∨ z = -1 → cv_row h 60 z = wk_row (mi_a h) M z := by
        intro z ez hz
        refine ih z ?_ (fun q => by omega)
        by_cases q : z = -1
        · exact Or.inl q
        · have z0 : 0 ≤ g 125 u.toNat := by omega
          refine Or.inr ⟨by omega, ?_⟩
          rw [ez]
          exact p4 z0
      rw [fu u u0 u1]
      unfold cq_n at x3
      unfold wk_row
      rw [if_neg (by omega), r124, r125]
      by_cases c4 : 0 ≤ g 124 u.toNat
      · rw [if_pos c4] at x3
        rw [if_pos c4, x3]
        obtain ⟨m1, m2⟩ := p3 c4
        have mlt : g 124 u.toNat < g 0 0 := p1.2
        rw [fu _ c4 mlt]
        have x3' := (hC.2.2.2.1 (g 124 u.toNat).toNat (by omega)).2.2.1
        unfold cq_n at x3'
        rw [if_neg (by rw [m2]; decide), m1] at x3'
        have w' := (hU.2 _ c4 mlt).1
        rw [x3'] at w' ⊢
        rw [nx _ rfl (by omega)]
      · rw [if_neg c4, ou] at x3
        rw [if_neg c4, x3]
        rw [x3] at w
        rw [nx _ rfl (by omega)]
end TWO
/-! the class's sets and the reference's are the same -/
section TWP
variable {f : Int → Int} {ow : Nat → Nat} {g : wk_g} {Y : wk_Y} {h : sm_H}
theorem TW_l (hq : RQ g h) (hC : TC f ow g h) (hP : PR ow g) (hI : FI f g) (hV : PV 240 g) (hZ : rz_U g) (hL : sy_L h Y) {a : Int} (a0 : 0 ≤ a) (a1 : a < g 0 1) : (cv_l h a).map (cv_p h) = (rv_l (mi_a h) a).map (sn (fm_of f)) ∧ (mi_a h 65 a.toNat = -1 ∨ (0 ≤ mi_a h 65 a.toNat ∧ mi_a h 65 a.toNat < g 0 0)) := by
  have hU := TW_u hq hC hP hI hV hZ hL
  have hU60 := hU.1
  have r126 := TW_g hq (r := 126) (by decide)
  obtain ⟨x1, x2⟩ := hC.2.2.1 a.toNat (by omega)
  obtain ⟨⟨q1, q2⟩, q3⟩ := hP.2.2.1 a.toNat (by omega)
  have rng : mi_a h 65 a.toNat = -1 ∨ (0 ≤ mi_a h 65 a.toNat ∧ mi_a h 65 a.toNat < g 0 0) := by rw [x1]; omega
  refine ⟨?_, rng⟩
  have e : cv_l h a = wk_row (mi_a h) 61 (mi_a h 126 a.toNat) := by
    unfold cv_l
    rw [r126, ← x1]
    refine TW_row hq hC hP hL hU 61 _ ?_ (fun q => by omega)
    rw [x1]
    by_cases c : g 126 a.toNat = -1
    · exact Or.inl c
    · exact Or.inr ⟨⟨by omega, q2⟩, q3 (by omega)⟩
  unfold rv_l
  rw [List.map_map, ← e]
  refine List.map_congr_left (fun u hu => ?_)
  obtain ⟨u0, u1⟩ := cv_row_in hU 60 _ rng u hu
  exact TW_p hq hC hI hV hZ u0 u1
theorem TW_as (hq : RQ g h) (hC : TC f ow g h) (hP : PR ow g) (hI : FI f g) (hV : PV 240 g) (hZ : rz_U g) (hL : sy_L h Y) (hA : g 0 1 ≤ g 0 0) : ∀ (m : Nat) (a : Int), (∀ j : Nat, j < m → 0 ≤ wk_alt (mi_a h) j a ∧ wk_alt (mi_a h) j a < g 0 1) → (cv_as h m a).map (fun a => (cv_l h a).map (cv_p h)) = (rv_as (mi_a h) m a).map (List.map (sn (fm_of f))) ∧ cv_al h (g 0 0) m a := by
  have r128 := TW_g hq (r := 128) (by decide)
  have hU60 := hP.1.1.2
  intro m
  induction m with
  | zero => intro a _; exact ⟨rfl, trivial⟩
  | succ m ih =>
    intro a ha
    obtain ⟨a0, a1⟩ := ha 0 (Nat.zero_lt_succ _)
    have a0 : 0 ≤ a := a0
    have a1 : a < g 0 1 := a1
    obtain ⟨e1, e2⟩ := TW_l hq hC hP hI hV hZ hL a0 a1
    obtain ⟨x1, x2⟩ := hC.2.2.1 a.toNat (by omega)
    have e128 : mi_a h 66 a.toNat = mi_a h 128 a.toNat := by rw [x2, r128]
    obtain ⟨i1, i2⟩ := ih (mi_a h 128 a.toNat) (fun j hj => ha (j + 1) (by omega))
    refine ⟨?_, ⟨⟨a0, by omega⟩, e2, ?_⟩⟩
    · rw [rv_as_c, List.map_cons, ← e1, ← i1, ← e128]
      rfl
    · rw [e128]
      exact i2
theorem TW_alt (hq : RQ g h) (hW : PW g) (hL : sy_L h Y) {F : Nat} (hF : (F : Int) < g 0 2) : ∀ j : Nat, (j : Int) < mi_a h 130 F → 0 ≤ wk_alt (mi_a h) j (mi_a h 129 F) ∧ wk_alt (mi_a h) j (mi_a h 129 F) < g 0 1 := by
  have r128 := TW_g hq (r := 128) (by decide)
  have r129 := TW_g hq (r := 129) (by decide)
  have hF' : (F : Int) < wk_f Y := by rw [hL.2.2.1, ← hq.1.2.2.1]; exact hF
  obtain ⟨-, -, c1, c2, -, c3⟩ := hL.1.2.2.2 F (by omega) hF'
  intro j
  induction j with
  | zero =>
    intro hj
    have := (c3 0 hj).1
    have this : 0 ≤ mi_a h 129 F := this
    refine ⟨this, ?_⟩
    show mi_a h 129 F < _
    rw [r129]
    exact (hW.2.2.2 F hF).2
  | succ j ih =>
    intro hj
    obtain ⟨i0, i1⟩ := ih (by omega)
    refine ⟨(c3 (j + 1) hj).1, ?_⟩
    rw [wk_alt_succ, r128]
    exact (hW.2.2.1 _ (by omega)).2
theorem TW_A (hq : RQ g h) (hW : PW g) (hL : sy_L h Y) : sy_A h := fun F hF j hj => by
  rw [← hq.1.2.2.1] at hF
  rw [← hq.1.2.1]
  exact (TW_alt hq hW hL hF j hj).2
/-- the class's rows are fine, where some read of the reference gave the same -/
theorem CV_F {h2 : sm_H} (hq : RQ g h2) (hC : TC f ow g h) (hP : PR ow g) (hI : FI f g) (hV : PV 240 g) (hW : PW g) (hZ : rz_U g) (hL : sy_L h2 Y) (hA : g 0 1 ≤ g 0 0) : cv_F h (g 0 0) := by
  have hU := TW_u hq hC hP hI hV hZ hL
  have r128 := TW_g hq (r := 128) (by decide)
  have r129 := TW_g hq (r := 129) (by decide)
  have r130 := TW_g hq (r := 130) (by decide)
  obtain ⟨⟨b0, b1, b2, b3, b4⟩, -, q7, q8⟩ := id hP
  have al : ∀ (m : Nat) (a : Int), (∀ j : Nat, j < m → 0 ≤ wk_alt (mi_a h2) j a ∧ wk_alt (mi_a h2) j a < g 0 1) → cv_al h (g 0 0) m a := by
    intro m
    induction m with
    | zero => intro a _; trivial
    | succ m ih =>
      intro a ha
      obtain ⟨a0, a1⟩ := ha 0 (Nat.zero_lt_succ _)
      have a0 : 0 ≤ a := a0
      have a1 : a < g 0 1 := a1
      obtain ⟨x1, x2⟩ := hC.2.2.1 a.toNat (by omega)
      obtain ⟨⟨p1, p2⟩, -⟩ := q7 a.toNat (by omega)
      refine ⟨⟨a0, by omega⟩, by rw [x1]; omega, ?_⟩
      rw [x2, ← r128]
      exact ih _ (fun j hj => ha (j + 1) (by omega))
  refine ⟨hU, fun F hF => ?_⟩
  by_cases c : ∃ x : Nat, (x : Int) < g 0 2 ∧ fm_of f x = F
  · obtain ⟨x, hx, rfl⟩ := c
    obtain ⟨x1, x2⟩ := hC.1 x hx
    have q := q8 x hx
    have e1 : cv_n h (fm_of f x) = (mi_a h2 130 x).toNat := by
      unfold cv_n fm_of
      rw [x2, r130]
      omega
    have e2 : mi_a h 63 (fm_of f x) = mi_a h2 129 x := by
      unfold fm_of
      rw [x1, r129]
    rw [e1, e2]
    exact al _ _ (fun j hj => TW_alt hq hW hL hx j (by omega))
  · have : cv_n h F = 0 := by
      unfold cv_n
      rw [hC.2.1 F hF (fun x hx q => c ⟨x, hx, by unfold fm_of; rw [q]; rfl⟩)]
      rfl
    rw [this]
    trivial
theorem TW_two (hT : TW f ow g Y h) : sg_two (mi_f h 13965).toNat 70 (fm_of f) (GR (mi_a h)) (GC h) ∧ cv_F h (g 0 0) := by
  obtain ⟨hS, hq, hCU, hP, hI, hV, hW, hZ, hL, hA⟩ := hT
  have hC := hCU
  have r129 := TW_g hq (r := 129) (by decide)
  have r130 := TW_g hq (r := 130) (by decide)
  have e65 : mi_f h 13965 = g 0 2 := hq.1.2.2.1.symm
  obtain ⟨⟨b0, b1, b2, b3, b4⟩, -, -, q8⟩ := id hP
  have hU := TW_u hq hC hP hI hV hZ hL
  have form : ∀ F : Nat, (F : Int) < g 0 2 → fm_of f F < 70 ∧ cv_n h (fm_of f F) = (mi_a h 130 F).toNat ∧ mi_a h 63 (fm_of f F) = mi_a h 129 F := by
    intro F hF
    have k := hI.2.2.2 F (by omega) hF
    obtain ⟨x1, x2⟩ := hC.1 F hF
    have q := q8 F hF
    refine ⟨by unfold fm_of; omega, ?_, ?_⟩
    · unfold cv_n fm_of
      rw [x2, r130]
      omega
    · unfold fm_of
      rw [x1, r129]
  have all : ∀ F : Nat, (F : Int) < g 0 2 → GC h (fm_of f F) = (GR (mi_a h) F).map (List.map (sn (fm_of f))) ∧ cv_al h (g 0 0) (cv_n h (fm_of f F)) (mi_a h 63 (fm_of f F)) := by
    intro F hF
    obtain ⟨f1, f2, f3⟩ := form F hF
    have A := TW_as hq hC hP hI hV hZ hL hA (mi_a h 130 F).toNat (mi_a h 129 F) (fun j hj => TW_alt hq hW hL hF j (by omega))
    refine ⟨?_, ?_⟩
    · unfold GC GR
      rw [f2, f3]
      exact A.1
    · rw [f2, f3]
      exact A.2
  have inj : ∀ F F' : Nat, (F : Int) < g 0 2 → (F' : Int) < g 0 2 → fm_of f F = fm_of f F' → F = F' := by
    intro F F' hF hF' e
    have k := hI.2.2.2 F (by omega) hF
    have k' := hI.2.2.2 F' (by omega) hF'
    unfold fm_of at e
    have := hI.2.2.1 F F' (by omega) hF (by omega) hF' (by omega)
    omega
  have no : ∀ j : Nat, j < 70 → (∀ F : Nat, (F : Int) < g 0 2 → fm_of f F ≠ j) → cv_n h j = 0 := by
    intro j hj hn
    unfold cv_n
    rw [hC.2.1 j hj (fun x hx q => hn x hx (by unfold fm_of; rw [q]; rfl))]
    rfl
  refine ⟨⟨fun F hF => ?_, fun F F' hF hF' => inj F F' (by omega) (by omega), fun j hj hn => ?_⟩, hU, fun F hF => ?_⟩
  · have hF' : (F : Int) < g 0 2 := by omega
    exact ⟨(form F hF').1, (all F hF').1⟩
  · have := no j hj (fun F hF => hn F (by omega))
    unfold GC
    rw [this]
    rfl
  · by_cases c : ∃ x : Nat, (x : Int) < g 0 2 ∧ fm_of f x = F
    · obtain ⟨x, hx, rfl⟩ := c
      exact (all x hx).2
    · rw [no F hF (fun x hx q => c ⟨x, hx, q⟩)]
      trivial
end TWP
/-- the rules' answers are the same -/
def SR (h : sm_H) : Prop := ∀ r : Nat, (r : Int) < mi_f h 13961 → (0 ≤ mi_a h 114 r ∧ mi_a h 114 r < 80) ∧ mi_a h 79 r = mi_a h 133 (mi_a h 114 r).toNat ∧ mx_b h 80 r = mx_b h 136 (mi_a h 114 r).toNat ∧ mi_a h 82 r = mi_a h 144 (mi_a h 114 r).toNat ∧ mx_b h 81 r = mx_b h 138 (mi_a h 114 r).toNat
theorem SR_of {f : Int → Int} {ow : Nat → Nat} {g : wk_g} {Y : wk_Y} {h : sm_H} (hT : TW f ow g Y h) (h1 : 1 ≤ g 0 3) {j k j' k' : Nat} {W W' : sp_F} (c1 : sp_eq 70 (cX h) (sps_k (GC h) 70 j)) (c2 : sp_fix 70 (GC h) (sps_k (GC h) 70 j)) (c3 : ∀ i : Nat, i < 70 → W i = if i = 0 then 1 else 0) (c4 : ∀ i : Nat, mx_b h 81 i = sk_k (sps_k (GC h) 70 j) (GC h) 70 W k i) (c5 : sw_sol (sps_k (GC h) 70 j) 70 (GC h) (sk_k (sps_k (GC h) 70 j) (GC h) 70 W k)) (r1 : sp_eq (mi_f h 13965).toNat (rX h) (sr_k (GR (mi_a h)) j')) (r2 : sp_fix (mi_f h 13965).toNat (GR (mi_a h)) (sr_k (GR (mi_a h)) j')) (r3 : ∀ i : Nat, (i : Int) < mi_f h 13965 → W' i = if (i : Int) = mi_a h 114 0 then 1 else 0) (r4 : ∀ i : Nat, mx_b h 138 i = sk_k (sr_k (GR (mi_a h)) j') (GR (mi_a h)) (mi_f h 13965).toNat W' k' i) (r5 : sw_sol (sr_k (GR (mi_a h)) j') (mi_f h 13965).toNat (GR (mi_a h)) (sk_k (sr_k (GR (mi_a h)) j') (GR (mi_a h)) (mi_f h 13965).toNat W' k')) : SR h := by
  obtain ⟨T, hF⟩ := TW_two hT
  obtain ⟨hS, hq, hCU, hP, hI, hV, hW, hZ, hL, hA⟩ := hT
  have hC := hCU
  have e65 : mi_f h 13965 = g 0 2 := hq.1.2.2.1.symm
  have e61 : mi_f h 13961 = g 0 3 := hq.1.2.2.2.1.symm
  have r114 := TW_g hq (r := 114) (by decide)
  have GO := sy_OK hL (TW_A hq hW hL)
  have CO := cv_OK hF
  have S := sg_same GO CO T r2 c2
  have fr : ∀ r : Nat, (r : Int) < g 0 3 → (0 ≤ g 114 r ∧ g 114 r < g 0 2) ∧ fm_of f (g 114 r).toNat = r := by
    intro r hr
    obtain ⟨x1, x2⟩ := hI.1 r hr
    refine ⟨x1, ?_⟩
    unfold fm_of
    rw [Int.toNat_of_nonneg x1.1, x2]
    rfl
  have f0 := fr 0 (by omega)
  have SW := sg_sameW GO CO T S (WR := W') (WC := W) (k := k') (k' := k) (fun F hF' => by
    have k1 := (T.1 F hF').1
    rw [c3 _ k1, r3 F (by omega), r114]
    by_cases c : (F : Int) = g 114 0
    · rw [if_pos c, if_pos]
      have : F = (g 114 0).toNat := by omega
      rw [this]
      exact f0.2
    · rw [if_neg c, if_neg]
      intro q
      refine c ?_
      have := T.2.1 F (g 114 0).toNat hF' (by omega) (q.trans f0.2.symm)
      omega) (fun i hi hn => by
    rw [c3 i hi, if_neg]
    intro q
    exact hn (g 114 0).toNat (by omega) (by rw [q]; exact f0.2)) r5 c5
  intro r hr
  rw [e61] at hr
  obtain ⟨x1, x2⟩ := fr r hr
  have b80 := me_fb (c := 13965) hS rfl
  have lt : (g 114 r).toNat < (mi_f h 13965).toNat := by omega
  have r70 := (T.1 _ lt).1
  rw [x2] at r70
  obtain ⟨s1, s2, s3⟩ := S _ lt
  obtain ⟨t1, t2, t3⟩ := r1 _ lt
  obtain ⟨u1, u2, u3⟩ := c1 r r70
  have s4 := SW _ lt
  rw [x2] at s4
  have s1 : (sr_k (GR (mi_a h)) j').1 (g 114 r).toNat = (sps_k (GC h) 70 j).1 (fm_of f (g 114 r).toNat) := s1
  have s2 : (sr_k (GR (mi_a h)) j').2.1 (g 114 r).toNat = (sps_k (GC h) 70 j).2.1 (fm_of f (g 114 r).toNat) := s2
  have s3 : (sr_k (GR (mi_a h)) j').2.2 (g 114 r).toNat = (sps_k (GC h) 70 j).2.2 (fm_of f (g 114 r).toNat) := s3
  rw [x2] at s1 s2 s3
  rw [r114]
  refine ⟨⟨x1.1, by omega⟩, ?_, ?_, ?_, ?_⟩
  · exact u1.trans (s1.symm.trans t1.symm)
  · exact u2.trans (s2.symm.trans t2.symm)
  · exact u3.trans (s3.symm.trans t3.symm)
  · rw [c4, r4]
    exact s4.symm
/-! the reference's parse, grow, print, set: what they leave as it was -/
def mq_W : List (Nat × Nat) := [(13952, 13953), (13954, 13959), (13960, 13961), (13963, 14080), (14336, 14337), (18560, 21888)]
def mq_Q (h : sm_H) (w : Option mi_V) (h' : sm_H) : Prop := (∃ z, w = some (.inl z) ∧ mi_in z) ∧ ab_Sh sx_sk h' ∧ ab_Fr mq_W h h' ∧ mj_0 h'
section CLS
variable {d : Nat} {h : sm_H}
theorem mq_fin {h' : sm_H} {z : Int} {wr : List (Nat × Nat)} (hJ : mj_0 h) (hS : ab_Sh sx_sk h) (oz : mi_in z) (hS' : ab_Sh sx_sk h') (hF : ab_Fr wr h h') (hw : (ab_sub_wr wr mq_W && mj_no wr) = true) : mq_Q h (some (.inl z)) h' := by
  simp only [Bool.and_eq_true] at hw
  exact ⟨⟨z, rfl, oz⟩, hS', hF.wide (fun c hc => ab_swr_ok hw.1 hc), mj_0_fr hJ hS hF hw.2⟩
theorem me_parsef (hS : ab_Sh sx_sk h) (hJ : mj_0 h) : me_E (d + 20) 228 0 [some (.inr (.inr 109))] [] h (mq_Q h) := by
  refine mt_paA hS ?_ ?_
  · intro b c h1 g1 g2 g3
    have hJ1 : mj_0 h1 := mj_0_fr hJ hS g3 rfl
    refine ⟨_, me_tokenize (d := d + 18) g1, fun w h2 ow hq => ?_⟩
    obtain ⟨rfl, q1, q2, q3⟩ := hq
    have hJ2 : mj_0 h2 := mj_0_fr hJ1 g1 q2 rfl
    have F2 : ab_Fr ((13952, 13953) :: tk_W) h h2 := (g3.wide (fun c hc => ab_swr_ok (by decide) hc)).trans (q2.wide (fun c hc => ab_swr_ok (by decide) hc))
    have st2 : mi_f h2 13959 = mi_f h 13959 := me_f (c := 13959) F2 hS rfl rfl
    obtain ⟨Y, l1, l2⟩ := hJ2.1 (by omega)
    refine mt_paB q1 ?_
    intro h2' p1 p2
    have e2 := me_nil p2
    subst e2
    refine ⟨_, me_walk (d := d + 12) (Y := Y) (T := ta_I h2') q1 (Or.inl rfl) l1 l2 (fun _ => q3) (ta_T q1) (fun h' s1 s2 s3 s4 s5 => ?_), fun w h3 ow hq => ?_⟩
    · refine ⟨?_, fun i hi => ?_, fun K V k1 k2 k3 => ?_⟩
      · rw [s3]
        trivial
      · rw [s3] at hi
        obtain ⟨e, he, e5, -⟩ := hi
        simp only [List.mem_cons, List.not_mem_nil, or_false] at he
        rcases he with rfl | rfl
        · exact absurd e5 (show ¬ (1 : Int) = 5 from by decide)
        · exact absurd e5 (show ¬ (2 : Int) = 5 from by decide)
      · rw [s3, s4]
        rfl
    · obtain ⟨rfl, q4, q5, q6⟩ := hq
      have F3 : ab_Fr ((13952, 13953) :: (tk_W ++ wr_WK)) h h3 := (F2.wide (fun c hc => ab_swr_ok (by decide) hc)).trans (q5.wide (fun c hc => ab_swr_ok (by decide) hc))
      refine mt_paC q4 ?_ ?_ ?_
      · intro b1 b2 c1 c2 h4 r1 r2 r3
        refine ⟨_, me_take (d := d + 19) r1, fun w h5 ow hq => ?_⟩
        obtain ⟨⟨z, rfl, oz⟩, t0, t1, t2, t3⟩ := hq
        refine mt_paD t0 oz ?_
        intro h6 u1 u2
        have e6 := me_nil u2
        subst e6
        have F6 : ab_Fr ((13952, 13953) :: (tk_W ++ wr_WK ++ ta_W)) h h6 := ((F3.wide (fun c hc => ab_swr_ok (by decide) hc)).trans (r3.wide (fun c hc => ab_swr_ok (by decide) hc))).trans (t1.wide (fun c hc => ab_swr_ok (by decide) hc))
        have F26 : ab_Fr ((13952, 13953) :: (wr_WK ++ ta_W)) h2' h6 := ((q5.wide (fun c hc => ab_swr_ok (by decide) hc)).trans (r3.wide (fun c hc => ab_swr_ok (by decide) hc))).trans (t1.wide (fun c hc => ab_swr_ok (by decide) hc))
        have hg : wk_gc (mi_a h2') (mi_a h6) := wk_gc_fr F26 q1 rfl
        refine ⟨⟨z, rfl, oz⟩, u1, F6.wide (fun c hc => ab_swr_ok (by decide) hc), ?_⟩
        refine mj_taken (μ := 0) (by decide) (mj_L_g hg ⟨Y, l1, l2⟩) q4 r3 t2 t3 (fun K V hKV => ?_)
        rcases q6 with q6 | ⟨zt, z0, z1, z2, hI⟩
        · exfalso; omega
        · obtain ⟨-, x2, x3⟩ : ta_I h2' zt h3 := hI.2.2.2.1
          have x1 := (x3 : _)
          obtain ⟨xi, -, -⟩ : ta_I h2' zt h3 := hI.2.2.2.1
          have tr := x3 K V (fun i hi => (hKV i hi).1) (fun i hi _ => (hKV i hi).2) (fun i hi => by
            have l := wk_ix_on _ _ xi i hi
            have := x2 i hi
            rw [(hKV i l).2]
            omega)
          refine tp_N_g hg ⟨zt.toNat, _, by omega, tr, ?_⟩
          rcases z2 with z2 | z2
          · exact Or.inl (by rw [z2]; rfl)
          · exact Or.inr (by omega)
      · intro b1 b2 c1 c2
        refine ⟨by omega, fun h4 r1 r2 r3 => ?_⟩
        exact mq_fin (wr := (13952, 13953) :: (tk_W ++ wr_WK)) hJ hS ⟨by omega, by omega⟩ r1 (F3.trans (r3.wide (fun c hc => ab_swr_ok (by decide) hc))) rfl
      · intro b1 c1 h4 r1 r2 r3
        exact mq_fin (wr := (13952, 13953) :: (tk_W ++ wr_WK)) hJ hS ⟨by decide, by decide⟩ r1 (F3.trans (r3.wide (fun c hc => ab_swr_ok (by decide) hc))) rfl
  · intro b c h1 g1 g2 g3
    exact mq_fin hJ hS ⟨by decide, by decide⟩ g1 g3 rfl
theorem me_growf {zx : Int64} {zf : Int} (hS : ab_Sh sx_sk h) (hJ : mj_0 h) (of : mi_in zf) : me_E (d + 20) 232 0 [some (.inr (.inr 109)), some (.inr (.inl zx)), none, some (.inl zf)] [] h (mq_Q h) := by
  refine mt_groA hS of ?_ ?_ ?_ ?_
  · intro c h1 g1 g2 g3
    exact mq_fin hJ hS ⟨by decide, by decide⟩ g1 g3 rfl
  · intro b c1 c2 c3 h2 g1 g2 g3 g4 g5
    have hJ2 : mj_0 h2 := mj_0_fr hJ hS g5 rfl
    have st2 : mi_f h2 13959 = mi_f h 13959 := me_f (c := 13959) g5 hS rfl rfl
    obtain ⟨Y, l1, l2⟩ := hJ2.1 (by omega)
    refine ⟨_, me_walk (d := d + 12) (Y := Y) (T := tg_I h2) g1 (Or.inr (Or.inl rfl)) l1 l2 (fun e => absurd e (by decide)) (tg_T g1) (fun h' s1 s2 s3 s4 s5 => ?_), fun w h3 ow hq => ?_⟩
    · intro K V hK
      rw [s3, s4]
      rfl
    · obtain ⟨rfl, q4, q5, q6⟩ := hq
      have F3 : ab_Fr ((13952, 13953) :: wr_WK) h h3 := (g5.wide (fun c hc => ab_swr_ok (by decide) hc)).trans (q5.wide (fun c hc => ab_swr_ok (by decide) hc))
      refine mt_groB q4 of ?_ ?_
      · intro b1 c4 h4 r1 r2 r3
        refine ⟨_, me_take (d := d + 19) r1, fun w h5 ow hq => ?_⟩
        obtain ⟨⟨z, rfl, oz⟩, t0, t1, t2, t3⟩ := hq
        refine mt_groC t0 of oz ?_
        intro h6 u1 u2
        have e6 := me_nil u2
        subst e6
        have F26 : ab_Fr ((13952, 13953) :: (wr_WK ++ ta_W)) h2 h6 := ((q5.wide (fun c hc => ab_swr_ok (by decide) hc)).trans (r3.wide (fun c hc => ab_swr_ok (by decide) hc))).trans (t1.wide (fun c hc => ab_swr_ok (by decide) hc))
        have hg : wk_gc (mi_a h2) (mi_a h6) := wk_gc_fr F26 g1 rfl
        refine ⟨⟨z, rfl, oz⟩, u1, ((g5.wide (fun c hc => ab_swr_ok (by decide) hc)).trans (F26.wide (fun c hc => ab_swr_ok (by decide) hc))), ?_⟩
        refine mj_taken (μ := 1) (by decide) (mj_L_g hg ⟨Y, l1, l2⟩) q4 r3 t2 t3 (fun K V hKV => ?_)
        rcases q6 with q6 | ⟨zt, z0, z1, z2, hI⟩
        · exfalso; omega
        · have tr := (show tg_I h2 zt h3 from hI.2.2.2.1) K V hKV
          refine tp_N_g hg ⟨zt.toNat, _, by omega, tr, ?_⟩
          rcases z2 with z2 | z2
          · exact Or.inl z2
          · exact Or.inr (by omega)
      · intro b1 c4 h4 r1 r2 r3
        exact mq_fin (wr := (13952, 13953) :: wr_WK) hJ hS ⟨by decide, by decide⟩ r1 (F3.trans (r3.wide (fun c hc => ab_swr_ok (by decide) hc))) rfl
  · intro b c1 c2 c3 h1 g1 g2 g3
    exact mq_fin hJ hS ⟨by decide, by decide⟩ g1 g3 rfl
  · intro c1 c2 h1 g1 g2 g3
    exact mq_fin hJ hS ⟨by decide, by decide⟩ g1 g3 rfl
theorem me_printf (hS : ab_Sh sx_sk h) (hJ : mj_0 h) : me_E (d + 20) 205 0 [some (.inr (.inr 109)), none] [] h (mq_Q h) := by
  have cp : ∀ (N : Nat) (zk : Int) (h1 : sm_H), 160 - zk < N → 0 ≤ zk → zk ≤ 160 → ab_Sh sx_sk h1 → ab_Fr pr_W h h1 → me_E (d + 20) 205 77 [some (.inr (.inr 109)), some (.inl zk)] [] h1 (mq_Q h) := by
    intro N
    induction N with
    | zero => intro zk h1 hN _ _; exfalso; omega
    | succ N ih =>
      intro zk h1 hN k0 k1 hS1 hF
      refine mt_prC hS1 ⟨by omega, by omega⟩ ?_ ?_
      · intro b c
        refine ⟨by omega, fun h2 g1 g2 g3 => ?_⟩
        exact mq_fin (wr := pr_W) hJ hS ⟨by omega, by omega⟩ g1 (hF.trans (g3.wide (fun c hc => ab_swr_ok (by decide) hc))) rfl
      · intro b c
        refine ⟨by omega, fun h2 g1 g2 g3 => ?_⟩
        exact ih (zk + 1) h2 (by omega) (by omega) (by omega) g1 (hF.trans (g3.wide (fun c hc => ab_swr_ok (by decide) hc)))
  refine mt_prA hS ?_ ?_
  · intro b c h2 g1 g2 g3 g4 g5 g6 g7
    have hJ2 : mj_0 h2 := mj_0_fr hJ hS g7 rfl
    have n2 : mi_f h2 14015 = mi_f h 14015 := me_f (c := 14015) g7 hS rfl rfl
    obtain ⟨⟨Y, l1, l2⟩, hN⟩ := hJ2.2 (by omega)
    refine ⟨_, me_walk (d := d + 12) (Y := Y) (T := tp_I h2) g1 (Or.inr (Or.inr rfl)) l1 l2 (fun e => absurd e (by decide)) (tp_T g1 hN (by omega)) (fun h' s1 s2 s3 s4 s5 => ?_), fun w h3 ow hq => ?_⟩
    · unfold tp_I
      rw [s3, s4]
      rfl
    · obtain ⟨rfl, q4, q5, q6⟩ := hq
      have F3 : ab_Fr pr_W h h3 := (g7.wide (fun c hc => ab_swr_ok (by decide) hc)).trans (q5.wide (fun c hc => ab_swr_ok (by decide) hc))
      refine mt_prB q4 ?_ ?_
      · intro b1 c1 h4 r1 r2 r3
        exact cp 200 0 h4 (by decide) (by decide) (by decide) r1 (F3.trans (r3.wide (fun c hc => ab_swr_ok (by decide) hc)))
      · intro b1 c1 h4 r1 r2 r3
        exact mq_fin (wr := pr_W) hJ hS ⟨by decide, by decide⟩ r1 (F3.trans (r3.wide (fun c hc => ab_swr_ok (by decide) hc))) rfl
  · intro b c h1 g1 g2 g3
    exact mq_fin hJ hS ⟨by decide, by decide⟩ g1 g3 rfl
end CLS

section SET
variable {d : Nat} {h : sm_H}
def st_Qf (h : sm_H) (w : Option mi_V) (h' : sm_H) : Prop := (∃ z, w = some (.inl z) ∧ 0 ≤ z ∧ z ≤ 1) ∧ ab_Sh sx_sk h' ∧ ab_Fr mq_W h h' ∧ mj_0 h'
theorem me_setf {zk : Int} {zv : Int64} (hS : ab_Sh sx_sk h) (hJ : mj_0 h) (ok : mi_in zk) : me_E (d + 20) 235 0 [some (.inr (.inr 109)), some (.inl zk), some (.inr (.inl zv)), none, none, none] [] h (st_Qf h) := by
  have pass : ∀ h1, ab_Sh sx_sk h1 → ab_Fr [(13952, 13953)] h h1 → st_Qf h (some (.inl 0)) h1 := fun h1 g1 g3 => ⟨⟨0, rfl, by decide, by decide⟩, g1, g3.wide (fun c hc => ab_swr_ok (by decide) hc), mj_0_fr hJ hS g3 rfl⟩
  have bo : 0 ≤ zk → zk < mi_f h 14015 → mi_f h 14015 ≤ 100 → 0 ≤ mi_a h 157 (Int.toNat zk) ∧ mi_a h 157 (Int.toNat zk) ≤ 99 := fun a b c => me_ab (k := 157) (i := zk.toNat) hS rfl (by decide) (by omega)
  refine mt_seA hS ok ?_ ?_ ?_ ?_ ?_ ?_ ?_
  · intro c h1 g1 g2 g3
    exact pass h1 g1 g3
  · intro b c1 c2 c3 c4
    have := bo c1 c2 b.2
    exact ⟨by omega, fun h1 g1 g2 g3 => pass h1 g1 g3⟩
  · intro b c1 c2 c3 c4
    have hb := bo c1 c2 b.2
    refine ⟨by omega, fun h1 g1 g2 g3 => ⟨_, me_isName (d := d + 17) g1, fun w h2 ow hq => ?_⟩⟩
    obtain ⟨e, z, rfl, z0, z1⟩ := hq
    subst e
    refine mt_seB g1 ok (mi_inT _) ⟨by omega, by omega⟩ ?_ ?_
    · intro c h3 r1 r2
      have e := me_nil r2
      subst e
      exact pass _ g1 g3
    · intro c
      refine ⟨by omega, fun h3 r1 r2 r3 => ?_⟩
      have F : ab_Fr [(13952, 13953), (20736, 20737)] h h3 := (g3.wide (fun c hc => ab_swr_ok (by decide) hc)).trans (r3.wide (fun c hc => ab_swr_ok (by decide) hc))
      refine ⟨⟨1, rfl, by decide, by decide⟩, r1, F.wide (fun c hc => ab_swr_ok (by decide) hc), mj_val (v := zv) hJ hS (Or.inr c4) F (fun i => ?_)⟩
      rw [r2, me_b (k := 162) g3 hS rfl rfl]
  · intro b c1 c2 c3 c4
    have := bo c1 c2 b.2
    exact ⟨by omega, fun h1 g1 g2 g3 => pass h1 g1 g3⟩
  · intro b c1 c2 c3 c4 c5
    have := bo c1 c2 b.2
    exact ⟨by omega, fun h1 g1 g2 g3 => pass h1 g1 g3⟩
  · intro b c1 c2 c3 c4 c5
    have := bo c1 c2 b.2
    refine ⟨by omega, fun h1 g1 g2 g3 g4 => ?_⟩
    exact ⟨⟨1, rfl, by decide, by decide⟩, g1, g4.wide (fun c hc => ab_swr_ok (by decide) hc), mj_val hJ hS (Or.inl c3) g4 g3⟩
  · intro b c1 c2 h1 g1 g2 g3
    exact pass h1 g1 g3
end SET
/-! between the law's calls: the class beside the reference -/
/-- the descriptions are the same -/
def rl_t (h : sm_H) : Prop := mi_f h 6657 = mi_f h 13953 ∧ mi_a h 53 = mi_a h 110 ∧ cx_ok h
section RRL
variable {h h' : sm_H} {wr : List (Nat × Nat)}
end RRL
section LJR
variable {L : Nat} {xs : Nat → Int32} {wr : List (Nat × Nat)} {h g : sm_H}
end LJR
/-! segments of the class: texts -/
set_option maxRecDepth 20000 in
theorem mp_apA_0 (h : sm_H) (d : Nat) (zc : Int) : mj_path [(91, (3, 4, sb_91))] sx_sk h 8 [1, 1] (d, 91, 0, [some (.inr (.inr 52)), some (.inl (zc)), none], [], [], []) = some ((d, 91, 24, [some (.inr (.inr 52)), some (.inl (zc)), some (.inl ((0 : Int)))], [], [], []), [zc < ((32 : Int)), zc ≠ ((10 : Int))]) := rfl
theorem mi_tab_apA_0 : ∀ e ∈ ([(91, (3, 4, sb_91))] : mi_T), sc_P e.1 = some e.2 := mi_tb mi_P91 (mi_tb_e)
set_option maxRecDepth 20000 in
theorem ms_apA_0 {h : sm_H} {d : Nat} {Q : Option mi_V → sm_H → Prop} {zc : Int} (hS : ab_Sh sx_sk h) (ok_zc : mi_in zc) (ho : (zc < ((32 : Int))) ∧ (zc ≠ ((10 : Int)))) (kon : ∀ h1, me_W [] h h1 → me_E (d) 91 24 [some (.inr (.inr 52)), some (.inl (zc)), some (.inl ((0 : Int)))] [] h1 Q) : me_E (d) 91 0 [some (.inr (.inr 52)), some (.inl (zc)), none] [] h Q := mf_seg (mp_apA_0 h d zc) (mi_tab_apA_0) hS (mi_okL_c (trivial) (mi_okL_c (ok_zc) (mi_okL_n (mi_okL_e)))) (mi_okS_e) (mi_al (ho.1) (mi_al (ho.2) (mi_al_e))) (fun h1 W _ hst => kon h1 W)
set_option maxRecDepth 20000 in
theorem mp_apA_1 (h : sm_H) (d : Nat) (zc : Int) : mj_path [(91, (3, 4, sb_91))] sx_sk h 9 [1, 0] (d, 91, 0, [some (.inr (.inr 52)), some (.inl (zc)), none], [], [], []) = some ((d, 91, 24, [some (.inr (.inr 52)), some (.inl (zc)), some (.inl ((1 : Int)))], [], [], []), [zc < ((32 : Int)), zc = ((10 : Int))]) := rfl
theorem mi_tab_apA_1 : ∀ e ∈ ([(91, (3, 4, sb_91))] : mi_T), sc_P e.1 = some e.2 := mi_tb mi_P91 (mi_tb_e)
set_option maxRecDepth 20000 in
theorem ms_apA_1 {h : sm_H} {d : Nat} {Q : Option mi_V → sm_H → Prop} {zc : Int} (hS : ab_Sh sx_sk h) (ok_zc : mi_in zc) (ho : (zc < ((32 : Int))) ∧ (zc = ((10 : Int)))) (kon : ∀ h1, me_W [] h h1 → me_E (d) 91 24 [some (.inr (.inr 52)), some (.inl (zc)), some (.inl ((1 : Int)))] [] h1 Q) : me_E (d) 91 0 [some (.inr (.inr 52)), some (.inl (zc)), none] [] h Q := mf_seg (mp_apA_1 h d zc) (mi_tab_apA_1) hS (mi_okL_c (trivial) (mi_okL_c (ok_zc) (mi_okL_n (mi_okL_e)))) (mi_okS_e) (mi_al (ho.1) (mi_al (ho.2) (mi_al_e))) (fun h1 W _ hst => kon h1 W)
set_option maxRecDepth 20000 in
theorem mp_apA_2 (h : sm_H) (d : Nat) (zc : Int) : mj_path [(91, (3, 4, sb_91))] sx_sk h 9 [0, 1] (d, 91, 0, [some (.inr (.inr 52)), some (.inl (zc)), none], [], [], []) = some ((d, 91, 24, [some (.inr (.inr 52)), some (.inl (zc)), some (.inl ((1 : Int)))], [], [], []), [((32 : Int)) ≤ zc, zc ≤ ((126 : Int))]) := rfl
theorem mi_tab_apA_2 : ∀ e ∈ ([(91, (3, 4, sb_91))] : mi_T), sc_P e.1 = some e.2 := mi_tb mi_P91 (mi_tb_e)
set_option maxRecDepth 20000 in
theorem ms_apA_2 {h : sm_H} {d : Nat} {Q : Option mi_V → sm_H → Prop} {zc : Int} (hS : ab_Sh sx_sk h) (ok_zc : mi_in zc) (ho : (((32 : Int)) ≤ zc) ∧ (zc ≤ ((126 : Int)))) (kon : ∀ h1, me_W [] h h1 → me_E (d) 91 24 [some (.inr (.inr 52)), some (.inl (zc)), some (.inl ((1 : Int)))] [] h1 Q) : me_E (d) 91 0 [some (.inr (.inr 52)), some (.inl (zc)), none] [] h Q := mf_seg (mp_apA_2 h d zc) (mi_tab_apA_2) hS (mi_okL_c (trivial) (mi_okL_c (ok_zc) (mi_okL_n (mi_okL_e)))) (mi_okS_e) (mi_al (ho.1) (mi_al (ho.2) (mi_al_e))) (fun h1 W _ hst => kon h1 W)
set_option maxRecDepth 20000 in
theorem mp_apA_3 (h : sm_H) (d : Nat) (zc : Int) : mj_path [(91, (3, 4, sb_91))] sx_sk h 11 [0, 0, 1] (d, 91, 0, [some (.inr (.inr 52)), some (.inl (zc)), none], [], [], []) = some ((d, 91, 24, [some (.inr (.inr 52)), some (.inl (zc)), some (.inl ((0 : Int)))], [], [], []), [((32 : Int)) ≤ zc, ((126 : Int)) < zc, zc ≠ ((10 : Int))]) := rfl
theorem mi_tab_apA_3 : ∀ e ∈ ([(91, (3, 4, sb_91))] : mi_T), sc_P e.1 = some e.2 := mi_tb mi_P91 (mi_tb_e)
set_option maxRecDepth 20000 in
theorem ms_apA_3 {h : sm_H} {d : Nat} {Q : Option mi_V → sm_H → Prop} {zc : Int} (hS : ab_Sh sx_sk h) (ok_zc : mi_in zc) (ho : (((32 : Int)) ≤ zc) ∧ (((126 : Int)) < zc) ∧ (zc ≠ ((10 : Int)))) (kon : ∀ h1, me_W [] h h1 → me_E (d) 91 24 [some (.inr (.inr 52)), some (.inl (zc)), some (.inl ((0 : Int)))] [] h1 Q) : me_E (d) 91 0 [some (.inr (.inr 52)), some (.inl (zc)), none] [] h Q := mf_seg (mp_apA_3 h d zc) (mi_tab_apA_3) hS (mi_okL_c (trivial) (mi_okL_c (ok_zc) (mi_okL_n (mi_okL_e)))) (mi_okS_e) (mi_al (ho.1) (mi_al (ho.2.1) (mi_al (ho.2.2) (mi_al_e)))) (fun h1 W _ hst => kon h1 W)
set_option maxRecDepth 20000 in
theorem mp_apA_4 (h : sm_H) (d : Nat) (zc : Int) : mj_path [(91, (3, 4, sb_91))] sx_sk h 12 [0, 0, 0] (d, 91, 0, [some (.inr (.inr 52)), some (.inl (zc)), none], [], [], []) = some ((d, 91, 24, [some (.inr (.inr 52)), some (.inl (zc)), some (.inl ((1 : Int)))], [], [], []), [((32 : Int)) ≤ zc, ((126 : Int)) < zc, zc = ((10 : Int))]) := rfl
theorem mi_tab_apA_4 : ∀ e ∈ ([(91, (3, 4, sb_91))] : mi_T), sc_P e.1 = some e.2 := mi_tb mi_P91 (mi_tb_e)
set_option maxRecDepth 20000 in
theorem ms_apA_4 {h : sm_H} {d : Nat} {Q : Option mi_V → sm_H → Prop} {zc : Int} (hS : ab_Sh sx_sk h) (ok_zc : mi_in zc) (ho : (((32 : Int)) ≤ zc) ∧ (((126 : Int)) < zc) ∧ (zc = ((10 : Int)))) (kon : ∀ h1, me_W [] h h1 → me_E (d) 91 24 [some (.inr (.inr 52)), some (.inl (zc)), some (.inl ((1 : Int)))] [] h1 Q) : me_E (d) 91 0 [some (.inr (.inr 52)), some (.inl (zc)), none] [] h Q := mf_seg (mp_apA_4 h d zc) (mi_tab_apA_4) hS (mi_okL_c (trivial) (mi_okL_c (ok_zc) (mi_okL_n (mi_okL_e)))) (mi_okS_e) (mi_al (ho.1) (mi_al (ho.2.1) (mi_al (ho.2.2) (mi_al_e)))) (fun h1 W _ hst => kon h1 W)
set_option maxRecDepth 20000 in
theorem mt_apA {h : sm_H} {d : Nat} {Q : Option mi_V → sm_H → Prop} {zc : Int} (hS : ab_Sh sx_sk h) (ok_zc : mi_in zc) (k0 : (zc < ((32 : Int))) → (zc ≠ ((10 : Int))) → (∀ h1, ab_Sh sx_sk h1 → ab_Fr [] h h1 → me_E (d) 91 24 [some (.inr (.inr 52)), some (.inl (zc)), some (.inl ((0 : Int)))] [] h1 Q)) (k1 : (zc < ((32 : Int))) → (zc = ((10 : Int))) → (∀ h1, ab_Sh sx_sk h1 → ab_Fr [] h h1 → me_E (d) 91 24 [some (.inr (.inr 52)), some (.inl (zc)), some (.inl ((1 : Int)))] [] h1 Q)) (k2 : (((32 : Int)) ≤ zc) → (zc ≤ ((126 : Int))) → (∀ h1, ab_Sh sx_sk h1 → ab_Fr [] h h1 → me_E (d) 91 24 [some (.inr (.inr 52)), some (.inl (zc)), some (.inl ((1 : Int)))] [] h1 Q)) (k3 : (((32 : Int)) ≤ zc) → (((126 : Int)) < zc) → (zc ≠ ((10 : Int))) → (∀ h1, ab_Sh sx_sk h1 → ab_Fr [] h h1 → me_E (d) 91 24 [some (.inr (.inr 52)), some (.inl (zc)), some (.inl ((0 : Int)))] [] h1 Q)) (k4 : (((32 : Int)) ≤ zc) → (((126 : Int)) < zc) → (zc = ((10 : Int))) → (∀ h1, ab_Sh sx_sk h1 → ab_Fr [] h h1 → me_E (d) 91 24 [some (.inr (.inr 52)), some (.inl (zc)), some (.inl ((1 : Int)))] [] h1 Q)) : me_E (d) 91 0 [some (.inr (.inr 52)), some (.inl (zc)), none] [] h Q := Or.elim (mi_em .lt (zc) (((32 : Int)))) (fun c0 => Or.elim (mi_em .ne (zc) (((10 : Int)))) (fun c1 => ms_apA_0 hS ok_zc ⟨c0, c1⟩ (fun h1 W => (k0 c0 c1) h1 W.1 (W.2.2.2.2.2 _ rfl))) (fun c1 => ms_apA_1 hS ok_zc ⟨c0, c1⟩ (fun h1 W => (k1 c0 c1) h1 W.1 (W.2.2.2.2.2 _ rfl)))) (fun c0 => Or.elim (mi_em .le (zc) (((126 : Int)))) (fun c1 => ms_apA_2 hS ok_zc ⟨c0, c1⟩ (fun h1 W => (k2 c0 c1) h1 W.1 (W.2.2.2.2.2 _ rfl))) (fun c1 => Or.elim (mi_em .ne (zc) (((10 : Int)))) (fun c2 => ms_apA_3 hS ok_zc ⟨c0, c1, c2⟩ (fun h1 W => (k3 c0 c1 c2) h1 W.1 (W.2.2.2.2.2 _ rfl))) (fun c2 => ms_apA_4 hS ok_zc ⟨c0, c1, c2⟩ (fun h1 W => (k4 c0 c1 c2) h1 W.1 (W.2.2.2.2.2 _ rfl)))))
set_option maxRecDepth 20000 in
theorem mp_apB_0 (h : sm_H) (d : Nat) (zc zl : Int) : mj_path [(91, (3, 4, sb_91))] sx_sk h 3 [1] (d, 91, 24, [some (.inr (.inr 52)), some (.inl (zc)), some (.inl (zl))], [], [], []) = some ((d, 91, 48, [some (.inr (.inr 52)), some (.inl (zc)), some (.inl (zl))], [.inl ((0 : Int))], [], []), [zl = ((0 : Int))]) := rfl
theorem mi_tab_apB_0 : ∀ e ∈ ([(91, (3, 4, sb_91))] : mi_T), sc_P e.1 = some e.2 := mi_tb mi_P91 (mi_tb_e)
set_option maxRecDepth 20000 in
theorem ms_apB_0 {h : sm_H} {d : Nat} {Q : Option mi_V → sm_H → Prop} {zc zl : Int} (hS : ab_Sh sx_sk h) (ok_zc : mi_in zc) (ok_zl : mi_in zl) (ho : (zl = ((0 : Int))) ∧ (((0 : Int)) = 0 ∨ ((0 : Int)) = 1)) (kon : ∀ h1, me_W [] h h1 → Q (some (.inl ((0 : Int)))) h1) : me_E (d) 91 24 [some (.inr (.inr 52)), some (.inl (zc)), some (.inl (zl))] [] h Q := mf_seg (mp_apB_0 h d zc zl) (mi_tab_apB_0) hS (mi_okL_c (trivial) (mi_okL_c (ok_zc) (mi_okL_c (ok_zl) (mi_okL_e)))) (mi_okS_e) (mi_al (ho.1) (mi_al_e)) (fun h1 W _ hst => mf_ret (M := (3, 4, sb_91)) rfl rfl rfl hst (mi_al (ho.2) mi_al_e) (kon h1 W))
set_option maxRecDepth 20000 in
theorem mp_apB_1 (h : sm_H) (d : Nat) (zc zl : Int) : mj_path [(91, (3, 4, sb_91))] sx_sk h 6 [0, 1] (d, 91, 24, [some (.inr (.inr 52)), some (.inl (zc)), some (.inl (zl))], [], [], []) = some ((d, 91, 48, [some (.inr (.inr 52)), some (.inl (zc)), some (.inl (zl))], [.inl ((0 : Int))], [], []), [zl ≠ ((0 : Int)), (mi_f h 6657) < ((0 : Int))]) := rfl
theorem mi_tab_apB_1 : ∀ e ∈ ([(91, (3, 4, sb_91))] : mi_T), sc_P e.1 = some e.2 := mi_tb mi_P91 (mi_tb_e)
set_option maxRecDepth 20000 in
theorem ms_apB_1 {h : sm_H} {d : Nat} {Q : Option mi_V → sm_H → Prop} {zc zl : Int} (hS : ab_Sh sx_sk h) (ok_zc : mi_in zc) (ok_zl : mi_in zl) (ho : (zl ≠ ((0 : Int))) ∧ ((mi_f h 6657) < ((0 : Int))) ∧ (((0 : Int)) = 0 ∨ ((0 : Int)) = 1)) (kon : ∀ h1, me_W [] h h1 → Q (some (.inl ((0 : Int)))) h1) : me_E (d) 91 24 [some (.inr (.inr 52)), some (.inl (zc)), some (.inl (zl))] [] h Q := mf_seg (mp_apB_1 h d zc zl) (mi_tab_apB_1) hS (mi_okL_c (trivial) (mi_okL_c (ok_zc) (mi_okL_c (ok_zl) (mi_okL_e)))) (mi_okS_e) (mi_al (ho.1) (mi_al (ho.2.1) (mi_al_e))) (fun h1 W _ hst => mf_ret (M := (3, 4, sb_91)) rfl rfl rfl hst (mi_al (ho.2.2) mi_al_e) (kon h1 W))
set_option maxRecDepth 20000 in
theorem mp_apB_2 (h : sm_H) (d : Nat) (zc zl : Int) : mj_path [(91, (3, 4, sb_91))] sx_sk h 16 [0, 0, 1] (d, 91, 24, [some (.inr (.inr 52)), some (.inl (zc)), some (.inl (zl))], [], [], []) = some ((d, 91, 58, [some (.inr (.inr 52)), some (.inl (zc)), some (.inl (zl))], [.inl (zc), .inl (mi_f h 6657), .inr (.inr 53)], [], []), [zl ≠ ((0 : Int)), ((0 : Int)) ≤ (mi_f h 6657), (mi_f h 6657) < ((240 : Int))]) := rfl
theorem mi_tab_apB_2 : ∀ e ∈ ([(91, (3, 4, sb_91))] : mi_T), sc_P e.1 = some e.2 := mi_tb mi_P91 (mi_tb_e)
set_option maxRecDepth 20000 in
theorem ms_apB_2 {h : sm_H} {d : Nat} {Q : Option mi_V → sm_H → Prop} {zc zl : Int} (hS : ab_Sh sx_sk h) (ok_zc : mi_in zc) (ok_zl : mi_in zl) (ho : (zl ≠ ((0 : Int))) ∧ (((0 : Int)) ≤ (mi_f h 6657)) ∧ ((mi_f h 6657) < ((240 : Int)))) (kon : ∀ h1, me_W [] h h1 → me_E (d) 91 58 [some (.inr (.inr 52)), some (.inl (zc)), some (.inl (zl))] [.inl (zc), .inl (mi_f h 6657), .inr (.inr 53)] h1 Q) : me_E (d) 91 24 [some (.inr (.inr 52)), some (.inl (zc)), some (.inl (zl))] [] h Q := mf_seg (mp_apB_2 h d zc zl) (mi_tab_apB_2) hS (mi_okL_c (trivial) (mi_okL_c (ok_zc) (mi_okL_c (ok_zl) (mi_okL_e)))) (mi_okS_e) (mi_al (ho.1) (mi_al (ho.2.1) (mi_al (ho.2.2) (mi_al_e)))) (fun h1 W _ hst => kon h1 W)
set_option maxRecDepth 20000 in
theorem mp_apB_3 (h : sm_H) (d : Nat) (zc zl : Int) : mj_path [(91, (3, 4, sb_91))] sx_sk h 12 [0, 0, 0] (d, 91, 24, [some (.inr (.inr 52)), some (.inl (zc)), some (.inl (zl))], [], [], []) = some ((d, 91, 48, [some (.inr (.inr 52)), some (.inl (zc)), some (.inl (zl))], [.inl ((0 : Int))], [], []), [zl ≠ ((0 : Int)), ((0 : Int)) ≤ (mi_f h 6657), ((240 : Int)) ≤ (mi_f h 6657)]) := rfl
theorem mi_tab_apB_3 : ∀ e ∈ ([(91, (3, 4, sb_91))] : mi_T), sc_P e.1 = some e.2 := mi_tb mi_P91 (mi_tb_e)
set_option maxRecDepth 20000 in
theorem ms_apB_3 {h : sm_H} {d : Nat} {Q : Option mi_V → sm_H → Prop} {zc zl : Int} (hS : ab_Sh sx_sk h) (ok_zc : mi_in zc) (ok_zl : mi_in zl) (ho : (zl ≠ ((0 : Int))) ∧ (((0 : Int)) ≤ (mi_f h 6657)) ∧ (((240 : Int)) ≤ (mi_f h 6657)) ∧ (((0 : Int)) = 0 ∨ ((0 : Int)) = 1)) (kon : ∀ h1, me_W [] h h1 → Q (some (.inl ((0 : Int)))) h1) : me_E (d) 91 24 [some (.inr (.inr 52)), some (.inl (zc)), some (.inl (zl))] [] h Q := mf_seg (mp_apB_3 h d zc zl) (mi_tab_apB_3) hS (mi_okL_c (trivial) (mi_okL_c (ok_zc) (mi_okL_c (ok_zl) (mi_okL_e)))) (mi_okS_e) (mi_al (ho.1) (mi_al (ho.2.1) (mi_al (ho.2.2.1) (mi_al_e)))) (fun h1 W _ hst => mf_ret (M := (3, 4, sb_91)) rfl rfl rfl hst (mi_al (ho.2.2.2) mi_al_e) (kon h1 W))
set_option maxRecDepth 20000 in
theorem mt_apB {h : sm_H} {d : Nat} {Q : Option mi_V → sm_H → Prop} {zc zl : Int} (hS : ab_Sh sx_sk h) (ok_zc : mi_in zc) (ok_zl : mi_in zl) (k0 : (zl = ((0 : Int))) → (∀ h1, ab_Sh sx_sk h1 → ab_Fr [] h h1 → Q (some (.inl ((0 : Int)))) h1)) (k1 : (0 ≤ mi_f h 6657 ∧ mi_f h 6657 ≤ 240) → (zl ≠ ((0 : Int))) → ((mi_f h 6657) < ((0 : Int))) → (∀ h1, ab_Sh sx_sk h1 → ab_Fr [] h h1 → Q (some (.inl ((0 : Int)))) h1)) (k2 : (0 ≤ mi_f h 6657 ∧ mi_f h 6657 ≤ 240) → (zl ≠ ((0 : Int))) → (((0 : Int)) ≤ (mi_f h 6657)) → ((mi_f h 6657) < ((240 : Int))) → (∀ h1, ab_Sh sx_sk h1 → ab_Fr [] h h1 → me_E (d) 91 58 [some (.inr (.inr 52)), some (.inl (zc)), some (.inl (zl))] [.inl (zc), .inl (mi_f h 6657), .inr (.inr 53)] h1 Q)) (k3 : (0 ≤ mi_f h 6657 ∧ mi_f h 6657 ≤ 240) → (zl ≠ ((0 : Int))) → (((0 : Int)) ≤ (mi_f h 6657)) → (((240 : Int)) ≤ (mi_f h 6657)) → (∀ h1, ab_Sh sx_sk h1 → ab_Fr [] h h1 → Q (some (.inl ((0 : Int)))) h1)) : me_E (d) 91 24 [some (.inr (.inr 52)), some (.inl (zc)), some (.inl (zl))] [] h Q := Or.elim (mi_em .eq (zl) (((0 : Int)))) (fun c0 => ms_apB_0 hS ok_zc ok_zl ⟨c0, (by decide)⟩ (fun h1 W => (k0 c0) h1 W.1 (W.2.2.2.2.2 _ rfl))) (fun c0 => Or.elim (mi_em .lt ((mi_f h 6657)) (((0 : Int)))) (fun c1 => ms_apB_1 hS ok_zc ok_zl ⟨c0, c1, (by decide)⟩ (fun h1 W => (k1 (me_fb hS rfl) c0 c1) h1 W.1 (W.2.2.2.2.2 _ rfl))) (fun c1 => Or.elim (mi_em .lt ((mi_f h 6657)) (((240 : Int)))) (fun c2 => ms_apB_2 hS ok_zc ok_zl ⟨c0, c1, c2⟩ (fun h1 W => (k2 (me_fb hS rfl) c0 c1 c2) h1 W.1 (W.2.2.2.2.2 _ rfl))) (fun c2 => ms_apB_3 hS ok_zc ok_zl ⟨c0, c1, c2, (by decide)⟩ (fun h1 W => (k3 (me_fb hS rfl) c0 c1 c2) h1 W.1 (W.2.2.2.2.2 _ rfl)))))
set_option maxRecDepth 20000 in
theorem mp_apC_0 (h : sm_H) (d : Nat) (zc zl : Int) : mj_path [(91, (3, 4, sb_91))] sx_sk h 7 [8] (d, 91, 59, [some (.inr (.inr 52)), some (.inl (zc)), some (.inl (zl))], [], [], []) = some ((d, 91, 70, [some (.inr (.inr 52)), some (.inl (zc)), some (.inl (zl))], [.inl ((1 : Int))], [.inl (6657, (mi_f h 6657) + ((1 : Int)))], []), [-2147483648 ≤ (mi_f h 6657) + ((1 : Int)) ∧ (mi_f h 6657) + ((1 : Int)) ≤ 2147483647, 0 ≤ ((mi_f h 6657) + ((1 : Int))) ∧ ((mi_f h 6657) + ((1 : Int))) ≤ 240]) := rfl
theorem mi_tab_apC_0 : ∀ e ∈ ([(91, (3, 4, sb_91))] : mi_T), sc_P e.1 = some e.2 := mi_tb mi_P91 (mi_tb_e)
set_option maxRecDepth 20000 in
theorem ms_apC_0 {h : sm_H} {d : Nat} {Q : Option mi_V → sm_H → Prop} {zc zl : Int} (hS : ab_Sh sx_sk h) (ok_zc : mi_in zc) (ok_zl : mi_in zl) (ho : (-2147483648 ≤ (mi_f h 6657) + ((1 : Int)) ∧ (mi_f h 6657) + ((1 : Int)) ≤ 2147483647) ∧ (0 ≤ ((mi_f h 6657) + ((1 : Int))) ∧ ((mi_f h 6657) + ((1 : Int))) ≤ 240) ∧ (((1 : Int)) = 0 ∨ ((1 : Int)) = 1)) (kon : ∀ h1, me_W [.inl (6657, (mi_f h 6657) + ((1 : Int)))] h h1 → Q (some (.inl ((1 : Int)))) h1) : me_E (d) 91 59 [some (.inr (.inr 52)), some (.inl (zc)), some (.inl (zl))] [] h Q := mf_seg (mp_apC_0 h d zc zl) (mi_tab_apC_0) hS (mi_okL_c (trivial) (mi_okL_c (ok_zc) (mi_okL_c (ok_zl) (mi_okL_e)))) (mi_okS_e) (mi_al (ho.1) (mi_al (ho.2.1) (mi_al_e))) (fun h1 W _ hst => mf_ret (M := (3, 4, sb_91)) rfl rfl rfl hst (mi_al (ho.2.2) mi_al_e) (kon h1 W))
set_option maxRecDepth 20000 in
theorem mt_apC {h : sm_H} {d : Nat} {Q : Option mi_V → sm_H → Prop} {zc zl : Int} (hS : ab_Sh sx_sk h) (ok_zc : mi_in zc) (ok_zl : mi_in zl) (k0 : (0 ≤ mi_f h 6657 ∧ mi_f h 6657 ≤ 240) → ((-2147483648 ≤ (mi_f h 6657) + ((1 : Int)) ∧ (mi_f h 6657) + ((1 : Int)) ≤ 2147483647) ∧ (0 ≤ ((mi_f h 6657) + ((1 : Int))) ∧ ((mi_f h 6657) + ((1 : Int))) ≤ 240)) ∧ (∀ h1, ab_Sh sx_sk h1 → mi_f h1 6657 = (mi_f h 6657) + ((1 : Int)) → ab_Fr [(6657, 6658)] h h1 → Q (some (.inl ((1 : Int)))) h1)) : me_E (d) 91 59 [some (.inr (.inr 52)), some (.inl (zc)), some (.inl (zl))] [] h Q := ms_apC_0 hS ok_zc ok_zl ⟨(k0 (me_fb hS rfl)).1.1, (k0 (me_fb hS rfl)).1.2, (by decide)⟩ (fun h1 W => (k0 (me_fb hS rfl)).2 h1 W.1 (W.2.1 6657) (W.2.2.2.2.2 _ rfl))
set_option maxRecDepth 20000 in
theorem mp_tyA_0 (h : sm_H) (d : Nat) (zt zc : Int) : mj_path [(95, (3, 4, sb_95))] sx_sk h 4 [1] (d + 1, 95, 0, [some (.inr (.inr 51)), some (.inl (zt)), some (.inl (zc))], [], [], []) = some ((d + 1, 95, 21, [some (.inr (.inr 51)), some (.inl (zt)), some (.inl (zc))], [.inl (zt), .inr (.inr 51)], [], []), [zt = ((0 : Int))]) := rfl
theorem mi_tab_tyA_0 : ∀ e ∈ ([(95, (3, 4, sb_95))] : mi_T), sc_P e.1 = some e.2 := mi_tb mi_P95 (mi_tb_e)
set_option maxRecDepth 20000 in
theorem ms_tyA_0 {h : sm_H} {d : Nat} {Q : Option mi_V → sm_H → Prop} {zt zc : Int} (hS : ab_Sh sx_sk h) (ok_zt : mi_in zt) (ok_zc : mi_in zc) (ho : (zt = ((0 : Int)))) (kon : ∀ h1, me_W [] h h1 → ∃ Q1, me_E (d + 0) 96 0 (mi_entry 2 [.inr (.inr 51), .inl (zt)]) [] h1 Q1 ∧ ∀ w h2, (∀ x, w = some x → mi_ok x) → Q1 w h2 → me_E (d + 1) 95 24 [some (.inr (.inr 51)), some (.inl (zt)), some (.inl (zc))] (mi_back w []) h2 Q) : me_E (d + 1) 95 0 [some (.inr (.inr 51)), some (.inl (zt)), some (.inl (zc))] [] h Q := mf_seg (mp_tyA_0 h d zt zc) (mi_tab_tyA_0) hS (mi_okL_c (trivial) (mi_okL_c (ok_zt) (mi_okL_c (ok_zc) (mi_okL_e)))) (mi_okS_e) (mi_al (ho) (mi_al_e)) (fun h1 W _ hst => let ⟨_, k1, k2⟩ := kon h1 W; mf_call (M := (3, 4, sb_95)) (M' := (2, 3, sb_96)) rfl rfl rfl rfl (Nat.le_of_ble_eq_true rfl) (Nat.le_of_ble_eq_true rfl) W.1 k1 k2)
set_option maxRecDepth 20000 in
theorem mp_tyA_1 (h : sm_H) (d : Nat) (zt zc : Int) : mj_path [(95, (3, 4, sb_95))] sx_sk h 7 [0, 1] (d + 1, 95, 0, [some (.inr (.inr 51)), some (.inl (zt)), some (.inl (zc))], [], [], []) = some ((d + 1, 95, 21, [some (.inr (.inr 51)), some (.inl (zt)), some (.inl (zc))], [.inl (zt), .inr (.inr 51)], [], []), [zt ≠ ((0 : Int)), zt = ((1 : Int))]) := rfl
theorem mi_tab_tyA_1 : ∀ e ∈ ([(95, (3, 4, sb_95))] : mi_T), sc_P e.1 = some e.2 := mi_tb mi_P95 (mi_tb_e)
set_option maxRecDepth 20000 in
theorem ms_tyA_1 {h : sm_H} {d : Nat} {Q : Option mi_V → sm_H → Prop} {zt zc : Int} (hS : ab_Sh sx_sk h) (ok_zt : mi_in zt) (ok_zc : mi_in zc) (ho : (zt ≠ ((0 : Int))) ∧ (zt = ((1 : Int)))) (kon : ∀ h1, me_W [] h h1 → ∃ Q1, me_E (d + 0) 96 0 (mi_entry 2 [.inr (.inr 51), .inl (zt)]) [] h1 Q1 ∧ ∀ w h2, (∀ x, w = some x → mi_ok x) → Q1 w h2 → me_E (d + 1) 95 24 [some (.inr (.inr 51)), some (.inl (zt)), some (.inl (zc))] (mi_back w []) h2 Q) : me_E (d + 1) 95 0 [some (.inr (.inr 51)), some (.inl (zt)), some (.inl (zc))] [] h Q := mf_seg (mp_tyA_1 h d zt zc) (mi_tab_tyA_1) hS (mi_okL_c (trivial) (mi_okL_c (ok_zt) (mi_okL_c (ok_zc) (mi_okL_e)))) (mi_okS_e) (mi_al (ho.1) (mi_al (ho.2) (mi_al_e))) (fun h1 W _ hst => let ⟨_, k1, k2⟩ := kon h1 W; mf_call (M := (3, 4, sb_95)) (M' := (2, 3, sb_96)) rfl rfl rfl rfl (Nat.le_of_ble_eq_true rfl) (Nat.le_of_ble_eq_true rfl) W.1 k1 k2)
set_option maxRecDepth 20000 in
theorem mp_tyA_2 (h : sm_H) (d : Nat) (zt zc : Int) : mj_path [(95, (3, 4, sb_95))] sx_sk h 5 [0, 0] (d + 1, 95, 0, [some (.inr (.inr 51)), some (.inl (zt)), some (.inl (zc))], [], [], []) = some ((d + 1, 95, 9, [some (.inr (.inr 51)), some (.inl (zt)), some (.inl (zc))], [], [], []), [zt ≠ ((0 : Int)), zt ≠ ((1 : Int))]) := rfl
theorem mi_tab_tyA_2 : ∀ e ∈ ([(95, (3, 4, sb_95))] : mi_T), sc_P e.1 = some e.2 := mi_tb mi_P95 (mi_tb_e)
set_option maxRecDepth 20000 in
theorem ms_tyA_2 {h : sm_H} {d : Nat} {Q : Option mi_V → sm_H → Prop} {zt zc : Int} (hS : ab_Sh sx_sk h) (ok_zt : mi_in zt) (ok_zc : mi_in zc) (ho : (zt ≠ ((0 : Int))) ∧ (zt ≠ ((1 : Int)))) (kon : ∀ h1, me_W [] h h1 → me_E (d + 1) 95 9 [some (.inr (.inr 51)), some (.inl (zt)), some (.inl (zc))] [] h1 Q) : me_E (d + 1) 95 0 [some (.inr (.inr 51)), some (.inl (zt)), some (.inl (zc))] [] h Q := mf_seg (mp_tyA_2 h d zt zc) (mi_tab_tyA_2) hS (mi_okL_c (trivial) (mi_okL_c (ok_zt) (mi_okL_c (ok_zc) (mi_okL_e)))) (mi_okS_e) (mi_al (ho.1) (mi_al (ho.2) (mi_al_e))) (fun h1 W _ hst => kon h1 W)
set_option maxRecDepth 20000 in
theorem mt_tyA {h : sm_H} {d : Nat} {Q : Option mi_V → sm_H → Prop} {zt zc : Int} (hS : ab_Sh sx_sk h) (ok_zt : mi_in zt) (ok_zc : mi_in zc) (k0 : (zt = ((0 : Int))) → (∀ h1, ab_Sh sx_sk h1 → ab_Fr [] h h1 → ∃ Q1, me_E (d + 0) 96 0 (mi_entry 2 [.inr (.inr 51), .inl (zt)]) [] h1 Q1 ∧ ∀ w h2, (∀ x, w = some x → mi_ok x) → Q1 w h2 → me_E (d + 1) 95 24 [some (.inr (.inr 51)), some (.inl (zt)), some (.inl (zc))] (mi_back w []) h2 Q)) (k1 : (zt ≠ ((0 : Int))) → (zt = ((1 : Int))) → (∀ h1, ab_Sh sx_sk h1 → ab_Fr [] h h1 → ∃ Q1, me_E (d + 0) 96 0 (mi_entry 2 [.inr (.inr 51), .inl (zt)]) [] h1 Q1 ∧ ∀ w h2, (∀ x, w = some x → mi_ok x) → Q1 w h2 → me_E (d + 1) 95 24 [some (.inr (.inr 51)), some (.inl (zt)), some (.inl (zc))] (mi_back w []) h2 Q)) (k2 : (zt ≠ ((0 : Int))) → (zt ≠ ((1 : Int))) → (∀ h1, ab_Sh sx_sk h1 → ab_Fr [] h h1 → me_E (d + 1) 95 9 [some (.inr (.inr 51)), some (.inl (zt)), some (.inl (zc))] [] h1 Q)) : me_E (d + 1) 95 0 [some (.inr (.inr 51)), some (.inl (zt)), some (.inl (zc))] [] h Q := Or.elim (mi_em .eq (zt) (((0 : Int)))) (fun c0 => ms_tyA_0 hS ok_zt ok_zc (c0) (fun h1 W => (k0 c0) h1 W.1 (W.2.2.2.2.2 _ rfl))) (fun c0 => Or.elim (mi_em .eq (zt) (((1 : Int)))) (fun c1 => ms_tyA_1 hS ok_zt ok_zc ⟨c0, c1⟩ (fun h1 W => (k1 c0 c1) h1 W.1 (W.2.2.2.2.2 _ rfl))) (fun c1 => ms_tyA_2 hS ok_zt ok_zc ⟨c0, c1⟩ (fun h1 W => (k2 c0 c1) h1 W.1 (W.2.2.2.2.2 _ rfl))))
set_option maxRecDepth 20000 in
theorem mp_tyC_0 (h : sm_H) (d : Nat) (zt zc : Int) : mj_path [(95, (3, 4, sb_95))] sx_sk h 1 [] (d + 1, 95, 24, [some (.inr (.inr 51)), some (.inl (zt)), some (.inl (zc))], [.inr (.inr 52)], [], []) = some ((d + 1, 95, 25, [some (.inr (.inr 51)), some (.inl (zt)), some (.inl (zc))], [.inl (zc), .inr (.inr 52)], [], []), []) := rfl
theorem mi_tab_tyC_0 : ∀ e ∈ ([(95, (3, 4, sb_95))] : mi_T), sc_P e.1 = some e.2 := mi_tb mi_P95 (mi_tb_e)
set_option maxRecDepth 20000 in
theorem ms_tyC_0 {h : sm_H} {d : Nat} {Q : Option mi_V → sm_H → Prop} {zt zc : Int} (hS : ab_Sh sx_sk h) (ok_zt : mi_in zt) (ok_zc : mi_in zc) (kon : ∀ h1, me_W [] h h1 → ∃ Q1, me_E (d + 0) 91 0 (mi_entry 3 [.inr (.inr 52), .inl (zc)]) [] h1 Q1 ∧ ∀ w h2, (∀ x, w = some x → mi_ok x) → Q1 w h2 → me_E (d + 1) 95 28 [some (.inr (.inr 51)), some (.inl (zt)), some (.inl (zc))] (mi_back w []) h2 Q) : me_E (d + 1) 95 24 [some (.inr (.inr 51)), some (.inl (zt)), some (.inl (zc))] [.inr (.inr 52)] h Q := mf_seg (mp_tyC_0 h d zt zc) (mi_tab_tyC_0) hS (mi_okL_c (trivial) (mi_okL_c (ok_zt) (mi_okL_c (ok_zc) (mi_okL_e)))) (mi_okS_cons (trivial) (mi_okS_e)) (mi_al_e) (fun h1 W _ hst => let ⟨_, k1, k2⟩ := kon h1 W; mf_call (M := (3, 4, sb_95)) (M' := (3, 4, sb_91)) rfl rfl rfl rfl (Nat.le_of_ble_eq_true rfl) (Nat.le_of_ble_eq_true rfl) W.1 k1 k2)
set_option maxRecDepth 20000 in
theorem mt_tyC {h : sm_H} {d : Nat} {Q : Option mi_V → sm_H → Prop} {zt zc : Int} (hS : ab_Sh sx_sk h) (ok_zt : mi_in zt) (ok_zc : mi_in zc) (k0 : (∀ h1, ab_Sh sx_sk h1 → ab_Fr [] h h1 → ∃ Q1, me_E (d + 0) 91 0 (mi_entry 3 [.inr (.inr 52), .inl (zc)]) [] h1 Q1 ∧ ∀ w h2, (∀ x, w = some x → mi_ok x) → Q1 w h2 → me_E (d + 1) 95 28 [some (.inr (.inr 51)), some (.inl (zt)), some (.inl (zc))] (mi_back w []) h2 Q)) : me_E (d + 1) 95 24 [some (.inr (.inr 51)), some (.inl (zt)), some (.inl (zc))] [.inr (.inr 52)] h Q := ms_tyC_0 hS ok_zt ok_zc (fun h1 W => (k0) h1 W.1 (W.2.2.2.2.2 _ rfl))
set_option maxRecDepth 20000 in
theorem mp_tyD_0 (h : sm_H) (d : Nat) (zt zc : Int) : mj_path [(95, (3, 4, sb_95))] sx_sk h 1 [] (d + 1, 95, 24, [some (.inr (.inr 51)), some (.inl (zt)), some (.inl (zc))], [.inr (.inr 54)], [], []) = some ((d + 1, 95, 25, [some (.inr (.inr 51)), some (.inl (zt)), some (.inl (zc))], [.inl (zc), .inr (.inr 54)], [], []), []) := rfl
theorem mi_tab_tyD_0 : ∀ e ∈ ([(95, (3, 4, sb_95))] : mi_T), sc_P e.1 = some e.2 := mi_tb mi_P95 (mi_tb_e)
set_option maxRecDepth 20000 in
theorem ms_tyD_0 {h : sm_H} {d : Nat} {Q : Option mi_V → sm_H → Prop} {zt zc : Int} (hS : ab_Sh sx_sk h) (ok_zt : mi_in zt) (ok_zc : mi_in zc) (kon : ∀ h1, me_W [] h h1 → ∃ Q1, me_E (d + 0) 91 0 (mi_entry 3 [.inr (.inr 54), .inl (zc)]) [] h1 Q1 ∧ ∀ w h2, (∀ x, w = some x → mi_ok x) → Q1 w h2 → me_E (d + 1) 95 28 [some (.inr (.inr 51)), some (.inl (zt)), some (.inl (zc))] (mi_back w []) h2 Q) : me_E (d + 1) 95 24 [some (.inr (.inr 51)), some (.inl (zt)), some (.inl (zc))] [.inr (.inr 54)] h Q := mf_seg (mp_tyD_0 h d zt zc) (mi_tab_tyD_0) hS (mi_okL_c (trivial) (mi_okL_c (ok_zt) (mi_okL_c (ok_zc) (mi_okL_e)))) (mi_okS_cons (trivial) (mi_okS_e)) (mi_al_e) (fun h1 W _ hst => let ⟨_, k1, k2⟩ := kon h1 W; mf_call (M := (3, 4, sb_95)) (M' := (3, 4, sb_91)) rfl rfl rfl rfl (Nat.le_of_ble_eq_true rfl) (Nat.le_of_ble_eq_true rfl) W.1 k1 k2)
set_option maxRecDepth 20000 in
theorem mt_tyD {h : sm_H} {d : Nat} {Q : Option mi_V → sm_H → Prop} {zt zc : Int} (hS : ab_Sh sx_sk h) (ok_zt : mi_in zt) (ok_zc : mi_in zc) (k0 : (∀ h1, ab_Sh sx_sk h1 → ab_Fr [] h h1 → ∃ Q1, me_E (d + 0) 91 0 (mi_entry 3 [.inr (.inr 54), .inl (zc)]) [] h1 Q1 ∧ ∀ w h2, (∀ x, w = some x → mi_ok x) → Q1 w h2 → me_E (d + 1) 95 28 [some (.inr (.inr 51)), some (.inl (zt)), some (.inl (zc))] (mi_back w []) h2 Q)) : me_E (d + 1) 95 24 [some (.inr (.inr 51)), some (.inl (zt)), some (.inl (zc))] [.inr (.inr 54)] h Q := ms_tyD_0 hS ok_zt ok_zc (fun h1 W => (k0) h1 W.1 (W.2.2.2.2.2 _ rfl))
set_option maxRecDepth 20000 in
theorem mp_tyB_0 (h : sm_H) (d : Nat) (zt zc zz : Int) : mj_path [(95, (3, 4, sb_95))] sx_sk h 0 [] (d + 1, 95, 28, [some (.inr (.inr 51)), some (.inl (zt)), some (.inl (zc))], [.inl (zz)], [], []) = some ((d + 1, 95, 28, [some (.inr (.inr 51)), some (.inl (zt)), some (.inl (zc))], [.inl (zz)], [], []), []) := rfl
theorem mi_tab_tyB_0 : ∀ e ∈ ([(95, (3, 4, sb_95))] : mi_T), sc_P e.1 = some e.2 := mi_tb mi_P95 (mi_tb_e)
set_option maxRecDepth 20000 in
theorem ms_tyB_0 {h : sm_H} {d : Nat} {Q : Option mi_V → sm_H → Prop} {zt zc zz : Int} (hS : ab_Sh sx_sk h) (ok_zt : mi_in zt) (ok_zc : mi_in zc) (ok_zz : mi_in zz) (ho : (zz = 0 ∨ zz = 1)) (kon : ∀ h1, me_W [] h h1 → Q (some (.inl (zz))) h1) : me_E (d + 1) 95 28 [some (.inr (.inr 51)), some (.inl (zt)), some (.inl (zc))] [.inl (zz)] h Q := mf_seg (mp_tyB_0 h d zt zc zz) (mi_tab_tyB_0) hS (mi_okL_c (trivial) (mi_okL_c (ok_zt) (mi_okL_c (ok_zc) (mi_okL_e)))) (mi_okS_cons (ok_zz) (mi_okS_e)) (mi_al_e) (fun h1 W _ hst => mf_ret (M := (3, 4, sb_95)) rfl rfl rfl hst (mi_al (ho) mi_al_e) (kon h1 W))
set_option maxRecDepth 20000 in
theorem mt_tyB {h : sm_H} {d : Nat} {Q : Option mi_V → sm_H → Prop} {zt zc zz : Int} (hS : ab_Sh sx_sk h) (ok_zt : mi_in zt) (ok_zc : mi_in zc) (ok_zz : mi_in zz) (k0 : ((zz = 0 ∨ zz = 1)) ∧ (∀ h1, ab_Sh sx_sk h1 → ab_Fr [] h h1 → Q (some (.inl (zz))) h1)) : me_E (d + 1) 95 28 [some (.inr (.inr 51)), some (.inl (zt)), some (.inl (zc))] [.inl (zz)] h Q := ms_tyB_0 hS ok_zt ok_zc ok_zz ((k0).1) (fun h1 W => (k0).2 h1 W.1 (W.2.2.2.2.2 _ rfl))
set_option maxRecDepth 20000 in
theorem mp_cwA_0 (h : sm_H) (d : Nat) (zt : Int) : mj_path [(97, (3, 1, sb_97))] sx_sk h 4 [1] (d + 1, 97, 0, [some (.inr (.inr 51)), some (.inl (zt)), none], [], [], []) = some ((d + 1, 97, 21, [some (.inr (.inr 51)), some (.inl (zt)), none], [.inl (zt), .inr (.inr 51)], [], []), [zt = ((0 : Int))]) := rfl
theorem mi_tab_cwA_0 : ∀ e ∈ ([(97, (3, 1, sb_97))] : mi_T), sc_P e.1 = some e.2 := mi_tb mi_P97 (mi_tb_e)
set_option maxRecDepth 20000 in
theorem ms_cwA_0 {h : sm_H} {d : Nat} {Q : Option mi_V → sm_H → Prop} {zt : Int} (hS : ab_Sh sx_sk h) (ok_zt : mi_in zt) (ho : (zt = ((0 : Int)))) (kon : ∀ h1, me_W [] h h1 → ∃ Q1, me_E (d + 0) 96 0 (mi_entry 2 [.inr (.inr 51), .inl (zt)]) [] h1 Q1 ∧ ∀ w h2, (∀ x, w = some x → mi_ok x) → Q1 w h2 → me_E (d + 1) 97 24 [some (.inr (.inr 51)), some (.inl (zt)), none] (mi_back w []) h2 Q) : me_E (d + 1) 97 0 [some (.inr (.inr 51)), some (.inl (zt)), none] [] h Q := mf_seg (mp_cwA_0 h d zt) (mi_tab_cwA_0) hS (mi_okL_c (trivial) (mi_okL_c (ok_zt) (mi_okL_n (mi_okL_e)))) (mi_okS_e) (mi_al (ho) (mi_al_e)) (fun h1 W _ hst => let ⟨_, k1, k2⟩ := kon h1 W; mf_call (M := (3, 1, sb_97)) (M' := (2, 3, sb_96)) rfl rfl rfl rfl (Nat.le_of_ble_eq_true rfl) (Nat.le_of_ble_eq_true rfl) W.1 k1 k2)
set_option maxRecDepth 20000 in
theorem mp_cwA_1 (h : sm_H) (d : Nat) (zt : Int) : mj_path [(97, (3, 1, sb_97))] sx_sk h 7 [0, 1] (d + 1, 97, 0, [some (.inr (.inr 51)), some (.inl (zt)), none], [], [], []) = some ((d + 1, 97, 21, [some (.inr (.inr 51)), some (.inl (zt)), none], [.inl (zt), .inr (.inr 51)], [], []), [zt ≠ ((0 : Int)), zt = ((1 : Int))]) := rfl
theorem mi_tab_cwA_1 : ∀ e ∈ ([(97, (3, 1, sb_97))] : mi_T), sc_P e.1 = some e.2 := mi_tb mi_P97 (mi_tb_e)
set_option maxRecDepth 20000 in
theorem ms_cwA_1 {h : sm_H} {d : Nat} {Q : Option mi_V → sm_H → Prop} {zt : Int} (hS : ab_Sh sx_sk h) (ok_zt : mi_in zt) (ho : (zt ≠ ((0 : Int))) ∧ (zt = ((1 : Int)))) (kon : ∀ h1, me_W [] h h1 → ∃ Q1, me_E (d + 0) 96 0 (mi_entry 2 [.inr (.inr 51), .inl (zt)]) [] h1 Q1 ∧ ∀ w h2, (∀ x, w = some x → mi_ok x) → Q1 w h2 → me_E (d + 1) 97 24 [some (.inr (.inr 51)), some (.inl (zt)), none] (mi_back w []) h2 Q) : me_E (d + 1) 97 0 [some (.inr (.inr 51)), some (.inl (zt)), none] [] h Q := mf_seg (mp_cwA_1 h d zt) (mi_tab_cwA_1) hS (mi_okL_c (trivial) (mi_okL_c (ok_zt) (mi_okL_n (mi_okL_e)))) (mi_okS_e) (mi_al (ho.1) (mi_al (ho.2) (mi_al_e))) (fun h1 W _ hst => let ⟨_, k1, k2⟩ := kon h1 W; mf_call (M := (3, 1, sb_97)) (M' := (2, 3, sb_96)) rfl rfl rfl rfl (Nat.le_of_ble_eq_true rfl) (Nat.le_of_ble_eq_true rfl) W.1 k1 k2)
set_option maxRecDepth 20000 in
theorem mp_cwA_2 (h : sm_H) (d : Nat) (zt : Int) : mj_path [(97, (3, 1, sb_97))] sx_sk h 5 [0, 0] (d + 1, 97, 0, [some (.inr (.inr 51)), some (.inl (zt)), none], [], [], []) = some ((d + 1, 97, 9, [some (.inr (.inr 51)), some (.inl (zt)), none], [], [], []), [zt ≠ ((0 : Int)), zt ≠ ((1 : Int))]) := rfl
theorem mi_tab_cwA_2 : ∀ e ∈ ([(97, (3, 1, sb_97))] : mi_T), sc_P e.1 = some e.2 := mi_tb mi_P97 (mi_tb_e)
set_option maxRecDepth 20000 in
theorem ms_cwA_2 {h : sm_H} {d : Nat} {Q : Option mi_V → sm_H → Prop} {zt : Int} (hS : ab_Sh sx_sk h) (ok_zt : mi_in zt) (ho : (zt ≠ ((0 : Int))) ∧ (zt ≠ ((1 : Int)))) (kon : ∀ h1, me_W [] h h1 → me_E (d + 1) 97 9 [some (.inr (.inr 51)), some (.inl (zt)), none] [] h1 Q) : me_E (d + 1) 97 0 [some (.inr (.inr 51)), some (.inl (zt)), none] [] h Q := mf_seg (mp_cwA_2 h d zt) (mi_tab_cwA_2) hS (mi_okL_c (trivial) (mi_okL_c (ok_zt) (mi_okL_n (mi_okL_e)))) (mi_okS_e) (mi_al (ho.1) (mi_al (ho.2) (mi_al_e))) (fun h1 W _ hst => kon h1 W)
set_option maxRecDepth 20000 in
theorem mt_cwA {h : sm_H} {d : Nat} {Q : Option mi_V → sm_H → Prop} {zt : Int} (hS : ab_Sh sx_sk h) (ok_zt : mi_in zt) (k0 : (zt = ((0 : Int))) → (∀ h1, ab_Sh sx_sk h1 → ab_Fr [] h h1 → ∃ Q1, me_E (d + 0) 96 0 (mi_entry 2 [.inr (.inr 51), .inl (zt)]) [] h1 Q1 ∧ ∀ w h2, (∀ x, w = some x → mi_ok x) → Q1 w h2 → me_E (d + 1) 97 24 [some (.inr (.inr 51)), some (.inl (zt)), none] (mi_back w []) h2 Q)) (k1 : (zt ≠ ((0 : Int))) → (zt = ((1 : Int))) → (∀ h1, ab_Sh sx_sk h1 → ab_Fr [] h h1 → ∃ Q1, me_E (d + 0) 96 0 (mi_entry 2 [.inr (.inr 51), .inl (zt)]) [] h1 Q1 ∧ ∀ w h2, (∀ x, w = some x → mi_ok x) → Q1 w h2 → me_E (d + 1) 97 24 [some (.inr (.inr 51)), some (.inl (zt)), none] (mi_back w []) h2 Q)) (k2 : (zt ≠ ((0 : Int))) → (zt ≠ ((1 : Int))) → (∀ h1, ab_Sh sx_sk h1 → ab_Fr [] h h1 → me_E (d + 1) 97 9 [some (.inr (.inr 51)), some (.inl (zt)), none] [] h1 Q)) : me_E (d + 1) 97 0 [some (.inr (.inr 51)), some (.inl (zt)), none] [] h Q := Or.elim (mi_em .eq (zt) (((0 : Int)))) (fun c0 => ms_cwA_0 hS ok_zt (c0) (fun h1 W => (k0 c0) h1 W.1 (W.2.2.2.2.2 _ rfl))) (fun c0 => Or.elim (mi_em .eq (zt) (((1 : Int)))) (fun c1 => ms_cwA_1 hS ok_zt ⟨c0, c1⟩ (fun h1 W => (k1 c0 c1) h1 W.1 (W.2.2.2.2.2 _ rfl))) (fun c1 => ms_cwA_2 hS ok_zt ⟨c0, c1⟩ (fun h1 W => (k2 c0 c1) h1 W.1 (W.2.2.2.2.2 _ rfl))))
set_option maxRecDepth 20000 in
theorem mp_cwB_0 (h : sm_H) (d : Nat) (zt : Int) : mj_path [(97, (3, 1, sb_97)), (22, (1, 1, sb_22))] sx_sk h 7 [] (d + 1, 97, 24, [some (.inr (.inr 51)), some (.inl (zt)), none], [.inr (.inr 52)], [], []) = some ((d + 1, 97, 30, [some (.inr (.inr 51)), some (.inl (zt)), some (.inl (mi_f h 6657))], [.inl (zt), .inr (.inr 51)], [], []), []) := rfl
theorem mi_tab_cwB_0 : ∀ e ∈ ([(97, (3, 1, sb_97)), (22, (1, 1, sb_22))] : mi_T), sc_P e.1 = some e.2 := mi_tb mi_P97 (mi_tb mi_P22 (mi_tb_e))
set_option maxRecDepth 20000 in
theorem ms_cwB_0 {h : sm_H} {d : Nat} {Q : Option mi_V → sm_H → Prop} {zt : Int} (hS : ab_Sh sx_sk h) (ok_zt : mi_in zt) (kon : ∀ h1, me_W [] h h1 → ∃ Q1, me_E (d + 0) 96 0 (mi_entry 2 [.inr (.inr 51), .inl (zt)]) [] h1 Q1 ∧ ∀ w h2, (∀ x, w = some x → mi_ok x) → Q1 w h2 → me_E (d + 1) 97 33 [some (.inr (.inr 51)), some (.inl (zt)), some (.inl (mi_f h 6657))] (mi_back w []) h2 Q) : me_E (d + 1) 97 24 [some (.inr (.inr 51)), some (.inl (zt)), none] [.inr (.inr 52)] h Q := mf_seg (mp_cwB_0 h d zt) (mi_tab_cwB_0) hS (mi_okL_c (trivial) (mi_okL_c (ok_zt) (mi_okL_n (mi_okL_e)))) (mi_okS_cons (trivial) (mi_okS_e)) (mi_al_e) (fun h1 W _ hst => let ⟨_, k1, k2⟩ := kon h1 W; mf_call (M := (3, 1, sb_97)) (M' := (2, 3, sb_96)) rfl rfl rfl rfl (Nat.le_of_ble_eq_true rfl) (Nat.le_of_ble_eq_true rfl) W.1 k1 k2)
set_option maxRecDepth 20000 in
theorem mt_cwB {h : sm_H} {d : Nat} {Q : Option mi_V → sm_H → Prop} {zt : Int} (hS : ab_Sh sx_sk h) (ok_zt : mi_in zt) (k0 : (∀ h1, ab_Sh sx_sk h1 → ab_Fr [] h h1 → ∃ Q1, me_E (d + 0) 96 0 (mi_entry 2 [.inr (.inr 51), .inl (zt)]) [] h1 Q1 ∧ ∀ w h2, (∀ x, w = some x → mi_ok x) → Q1 w h2 → me_E (d + 1) 97 33 [some (.inr (.inr 51)), some (.inl (zt)), some (.inl (mi_f h 6657))] (mi_back w []) h2 Q)) : me_E (d + 1) 97 24 [some (.inr (.inr 51)), some (.inl (zt)), none] [.inr (.inr 52)] h Q := ms_cwB_0 hS ok_zt (fun h1 W => (k0) h1 W.1 (W.2.2.2.2.2 _ rfl))
set_option maxRecDepth 20000 in
theorem mp_cwC_0 (h : sm_H) (d : Nat) (zt zn : Int) : mj_path [(97, (3, 1, sb_97)), (90, (1, 0, sb_90))] sx_sk h 6 [] (d + 1, 97, 33, [some (.inr (.inr 51)), some (.inl (zt)), some (.inl (zn))], [.inr (.inr 52)], [], []) = some ((d + 1, 97, 37, [some (.inr (.inr 51)), some (.inl (zt)), some (.inl (zn))], [.inl (zn)], [.inl (6657, (0 : Int))], []), [0 ≤ ((0 : Int)) ∧ ((0 : Int)) ≤ 240]) := rfl
theorem mi_tab_cwC_0 : ∀ e ∈ ([(97, (3, 1, sb_97)), (90, (1, 0, sb_90))] : mi_T), sc_P e.1 = some e.2 := mi_tb mi_P97 (mi_tb mi_P90 (mi_tb_e))
set_option maxRecDepth 20000 in
theorem ms_cwC_0 {h : sm_H} {d : Nat} {Q : Option mi_V → sm_H → Prop} {zt zn : Int} (hS : ab_Sh sx_sk h) (ok_zt : mi_in zt) (ok_zn : mi_in zn) (ho : (0 ≤ ((0 : Int)) ∧ ((0 : Int)) ≤ 240)) (kon : ∀ h1, me_W [.inl (6657, (0 : Int))] h h1 → Q (some (.inl (zn))) h1) : me_E (d + 1) 97 33 [some (.inr (.inr 51)), some (.inl (zt)), some (.inl (zn))] [.inr (.inr 52)] h Q := mf_seg (mp_cwC_0 h d zt zn) (mi_tab_cwC_0) hS (mi_okL_c (trivial) (mi_okL_c (ok_zt) (mi_okL_c (ok_zn) (mi_okL_e)))) (mi_okS_cons (trivial) (mi_okS_e)) (mi_al (ho) (mi_al_e)) (fun h1 W _ hst => mf_ret (M := (3, 1, sb_97)) rfl rfl rfl hst (mi_al_e) (kon h1 W))
set_option maxRecDepth 20000 in
theorem mt_cwC {h : sm_H} {d : Nat} {Q : Option mi_V → sm_H → Prop} {zt zn : Int} (hS : ab_Sh sx_sk h) (ok_zt : mi_in zt) (ok_zn : mi_in zn) (k0 : (∀ h1, ab_Sh sx_sk h1 → mi_f h1 6657 = (0 : Int) → ab_Fr [(6657, 6658)] h h1 → Q (some (.inl (zn))) h1)) : me_E (d + 1) 97 33 [some (.inr (.inr 51)), some (.inl (zt)), some (.inl (zn))] [.inr (.inr 52)] h Q := ms_cwC_0 hS ok_zt ok_zn ((by decide)) (fun h1 W => (k0) h1 W.1 (W.2.1 6657) (W.2.2.2.2.2 _ rfl))
set_option maxRecDepth 20000 in
theorem mp_cwD_0 (h : sm_H) (d : Nat) (zt : Int) : mj_path [(97, (3, 1, sb_97)), (22, (1, 1, sb_22))] sx_sk h 7 [] (d + 1, 97, 24, [some (.inr (.inr 51)), some (.inl (zt)), none], [.inr (.inr 54)], [], []) = some ((d + 1, 97, 30, [some (.inr (.inr 51)), some (.inl (zt)), some (.inl (mi_f h 6913))], [.inl (zt), .inr (.inr 51)], [], []), []) := rfl
theorem mi_tab_cwD_0 : ∀ e ∈ ([(97, (3, 1, sb_97)), (22, (1, 1, sb_22))] : mi_T), sc_P e.1 = some e.2 := mi_tb mi_P97 (mi_tb mi_P22 (mi_tb_e))
set_option maxRecDepth 20000 in
theorem ms_cwD_0 {h : sm_H} {d : Nat} {Q : Option mi_V → sm_H → Prop} {zt : Int} (hS : ab_Sh sx_sk h) (ok_zt : mi_in zt) (kon : ∀ h1, me_W [] h h1 → ∃ Q1, me_E (d + 0) 96 0 (mi_entry 2 [.inr (.inr 51), .inl (zt)]) [] h1 Q1 ∧ ∀ w h2, (∀ x, w = some x → mi_ok x) → Q1 w h2 → me_E (d + 1) 97 33 [some (.inr (.inr 51)), some (.inl (zt)), some (.inl (mi_f h 6913))] (mi_back w []) h2 Q) : me_E (d + 1) 97 24 [some (.inr (.inr 51)), some (.inl (zt)), none] [.inr (.inr 54)] h Q := mf_seg (mp_cwD_0 h d zt) (mi_tab_cwD_0) hS (mi_okL_c (trivial) (mi_okL_c (ok_zt) (mi_okL_n (mi_okL_e)))) (mi_okS_cons (trivial) (mi_okS_e)) (mi_al_e) (fun h1 W _ hst => let ⟨_, k1, k2⟩ := kon h1 W; mf_call (M := (3, 1, sb_97)) (M' := (2, 3, sb_96)) rfl rfl rfl rfl (Nat.le_of_ble_eq_true rfl) (Nat.le_of_ble_eq_true rfl) W.1 k1 k2)
set_option maxRecDepth 20000 in
theorem mt_cwD {h : sm_H} {d : Nat} {Q : Option mi_V → sm_H → Prop} {zt : Int} (hS : ab_Sh sx_sk h) (ok_zt : mi_in zt) (k0 : (∀ h1, ab_Sh sx_sk h1 → ab_Fr [] h h1 → ∃ Q1, me_E (d + 0) 96 0 (mi_entry 2 [.inr (.inr 51), .inl (zt)]) [] h1 Q1 ∧ ∀ w h2, (∀ x, w = some x → mi_ok x) → Q1 w h2 → me_E (d + 1) 97 33 [some (.inr (.inr 51)), some (.inl (zt)), some (.inl (mi_f h 6913))] (mi_back w []) h2 Q)) : me_E (d + 1) 97 24 [some (.inr (.inr 51)), some (.inl (zt)), none] [.inr (.inr 54)] h Q := ms_cwD_0 hS ok_zt (fun h1 W => (k0) h1 W.1 (W.2.2.2.2.2 _ rfl))
set_option maxRecDepth 20000 in
theorem mp_cwE_0 (h : sm_H) (d : Nat) (zt zn : Int) : mj_path [(97, (3, 1, sb_97)), (90, (1, 0, sb_90))] sx_sk h 6 [] (d + 1, 97, 33, [some (.inr (.inr 51)), some (.inl (zt)), some (.inl (zn))], [.inr (.inr 54)], [], []) = some ((d + 1, 97, 37, [some (.inr (.inr 51)), some (.inl (zt)), some (.inl (zn))], [.inl (zn)], [.inl (6913, (0 : Int))], []), [0 ≤ ((0 : Int)) ∧ ((0 : Int)) ≤ 160]) := rfl
theorem mi_tab_cwE_0 : ∀ e ∈ ([(97, (3, 1, sb_97)), (90, (1, 0, sb_90))] : mi_T), sc_P e.1 = some e.2 := mi_tb mi_P97 (mi_tb mi_P90 (mi_tb_e))
set_option maxRecDepth 20000 in
theorem ms_cwE_0 {h : sm_H} {d : Nat} {Q : Option mi_V → sm_H → Prop} {zt zn : Int} (hS : ab_Sh sx_sk h) (ok_zt : mi_in zt) (ok_zn : mi_in zn) (ho : (0 ≤ ((0 : Int)) ∧ ((0 : Int)) ≤ 160)) (kon : ∀ h1, me_W [.inl (6913, (0 : Int))] h h1 → Q (some (.inl (zn))) h1) : me_E (d + 1) 97 33 [some (.inr (.inr 51)), some (.inl (zt)), some (.inl (zn))] [.inr (.inr 54)] h Q := mf_seg (mp_cwE_0 h d zt zn) (mi_tab_cwE_0) hS (mi_okL_c (trivial) (mi_okL_c (ok_zt) (mi_okL_c (ok_zn) (mi_okL_e)))) (mi_okS_cons (trivial) (mi_okS_e)) (mi_al (ho) (mi_al_e)) (fun h1 W _ hst => mf_ret (M := (3, 1, sb_97)) rfl rfl rfl hst (mi_al_e) (kon h1 W))
set_option maxRecDepth 20000 in
theorem mt_cwE {h : sm_H} {d : Nat} {Q : Option mi_V → sm_H → Prop} {zt zn : Int} (hS : ab_Sh sx_sk h) (ok_zt : mi_in zt) (ok_zn : mi_in zn) (k0 : (∀ h1, ab_Sh sx_sk h1 → mi_f h1 6913 = (0 : Int) → ab_Fr [(6913, 6914)] h h1 → Q (some (.inl (zn))) h1)) : me_E (d + 1) 97 33 [some (.inr (.inr 51)), some (.inl (zt)), some (.inl (zn))] [.inr (.inr 54)] h Q := ms_cwE_0 hS ok_zt ok_zn ((by decide)) (fun h1 W => (k0) h1 W.1 (W.2.1 6913) (W.2.2.2.2.2 _ rfl))
set_option maxRecDepth 20000 in
theorem mp_smA_0 (h : sm_H) (d : Nat) (zk : Int) : mj_path [(98, (2, 1, sb_98)), (90, (1, 0, sb_90))] sx_sk h 2 [1] (d + 7, 98, 0, [some (.inr (.inr 51)), some (.inl (zk))], [], [], []) = some ((d + 7, 98, 9, [some (.inr (.inr 51)), some (.inl (zk))], [], [], []), [zk < ((0 : Int))]) := rfl
theorem mi_tab_smA_0 : ∀ e ∈ ([(98, (2, 1, sb_98)), (90, (1, 0, sb_90))] : mi_T), sc_P e.1 = some e.2 := mi_tb mi_P98 (mi_tb mi_P90 (mi_tb_e))
set_option maxRecDepth 20000 in
theorem ms_smA_0 {h : sm_H} {d : Nat} {Q : Option mi_V → sm_H → Prop} {zk : Int} (hS : ab_Sh sx_sk h) (ok_zk : mi_in zk) (ho : (zk < ((0 : Int)))) (kon : ∀ h1, me_W [] h h1 → me_E (d + 7) 98 9 [some (.inr (.inr 51)), some (.inl (zk))] [] h1 Q) : me_E (d + 7) 98 0 [some (.inr (.inr 51)), some (.inl (zk))] [] h Q := mf_seg (mp_smA_0 h d zk) (mi_tab_smA_0) hS (mi_okL_c (trivial) (mi_okL_c (ok_zk) (mi_okL_e))) (mi_okS_e) (mi_al (ho) (mi_al_e)) (fun h1 W _ hst => kon h1 W)
set_option maxRecDepth 20000 in
theorem mp_smA_1 (h : sm_H) (d : Nat) (zk : Int) : mj_path [(98, (2, 1, sb_98)), (90, (1, 0, sb_90))] sx_sk h 20 [0, 1, 1, 1] (d + 7, 98, 0, [some (.inr (.inr 51)), some (.inl (zk))], [], [], []) = some ((d + 7, 98, 51, [some (.inr (.inr 51)), some (.inl (zk))], [.inr (.inr 13), .inr (.inr 52)], [.inl (6657, (0 : Int))], []), [((0 : Int)) ≤ zk, zk ≤ ((2 : Int)), 0 ≤ ((0 : Int)) ∧ ((0 : Int)) ≤ 240, zk ≠ ((0 : Int)), zk ≠ ((1 : Int))]) := rfl
theorem mi_tab_smA_1 : ∀ e ∈ ([(98, (2, 1, sb_98)), (90, (1, 0, sb_90))] : mi_T), sc_P e.1 = some e.2 := mi_tb mi_P98 (mi_tb mi_P90 (mi_tb_e))
set_option maxRecDepth 20000 in
theorem ms_smA_1 {h : sm_H} {d : Nat} {Q : Option mi_V → sm_H → Prop} {zk : Int} (hS : ab_Sh sx_sk h) (ok_zk : mi_in zk) (ho : (((0 : Int)) ≤ zk) ∧ (zk ≤ ((2 : Int))) ∧ (0 ≤ ((0 : Int)) ∧ ((0 : Int)) ≤ 240) ∧ (zk ≠ ((0 : Int))) ∧ (zk ≠ ((1 : Int)))) (kon : ∀ h1, me_W [.inl (6657, (0 : Int))] h h1 → ∃ Q1, me_E (d + 6) 99 0 (mi_entry 3 [.inr (.inr 52), .inr (.inr 13)]) [] h1 Q1 ∧ ∀ w h2, (∀ x, w = some x → mi_ok x) → Q1 w h2 → me_E (d + 7) 98 54 [some (.inr (.inr 51)), some (.inl (zk))] (mi_back w []) h2 Q) : me_E (d + 7) 98 0 [some (.inr (.inr 51)), some (.inl (zk))] [] h Q := mf_seg (mp_smA_1 h d zk) (mi_tab_smA_1) hS (mi_okL_c (trivial) (mi_okL_c (ok_zk) (mi_okL_e))) (mi_okS_e) (mi_al (ho.1) (mi_al (ho.2.1) (mi_al (ho.2.2.1) (mi_al (ho.2.2.2.1) (mi_al (ho.2.2.2.2) (mi_al_e)))))) (fun h1 W _ hst => let ⟨_, k1, k2⟩ := kon h1 W; mf_call (M := (2, 1, sb_98)) (M' := (3, 0, sb_99)) rfl rfl rfl rfl (Nat.le_of_ble_eq_true rfl) (Nat.le_of_ble_eq_true rfl) W.1 k1 k2)
set_option maxRecDepth 20000 in
theorem mp_smA_2 (h : sm_H) (d : Nat) (zk : Int) : mj_path [(98, (2, 1, sb_98)), (90, (1, 0, sb_90))] sx_sk h 21 [0, 1, 1, 0] (d + 7, 98, 0, [some (.inr (.inr 51)), some (.inl (zk))], [], [], []) = some ((d + 7, 98, 51, [some (.inr (.inr 51)), some (.inl (zk))], [.inr (.inr 12), .inr (.inr 52)], [.inl (6657, (0 : Int))], []), [((0 : Int)) ≤ zk, zk ≤ ((2 : Int)), 0 ≤ ((0 : Int)) ∧ ((0 : Int)) ≤ 240, zk ≠ ((0 : Int)), zk = ((1 : Int))]) := rfl
theorem mi_tab_smA_2 : ∀ e ∈ ([(98, (2, 1, sb_98)), (90, (1, 0, sb_90))] : mi_T), sc_P e.1 = some e.2 := mi_tb mi_P98 (mi_tb mi_P90 (mi_tb_e))
set_option maxRecDepth 20000 in
theorem ms_smA_2 {h : sm_H} {d : Nat} {Q : Option mi_V → sm_H → Prop} {zk : Int} (hS : ab_Sh sx_sk h) (ok_zk : mi_in zk) (ho : (((0 : Int)) ≤ zk) ∧ (zk ≤ ((2 : Int))) ∧ (0 ≤ ((0 : Int)) ∧ ((0 : Int)) ≤ 240) ∧ (zk ≠ ((0 : Int))) ∧ (zk = ((1 : Int)))) (kon : ∀ h1, me_W [.inl (6657, (0 : Int))] h h1 → ∃ Q1, me_E (d + 6) 99 0 (mi_entry 3 [.inr (.inr 52), .inr (.inr 12)]) [] h1 Q1 ∧ ∀ w h2, (∀ x, w = some x → mi_ok x) → Q1 w h2 → me_E (d + 7) 98 54 [some (.inr (.inr 51)), some (.inl (zk))] (mi_back w []) h2 Q) : me_E (d + 7) 98 0 [some (.inr (.inr 51)), some (.inl (zk))] [] h Q := mf_seg (mp_smA_2 h d zk) (mi_tab_smA_2) hS (mi_okL_c (trivial) (mi_okL_c (ok_zk) (mi_okL_e))) (mi_okS_e) (mi_al (ho.1) (mi_al (ho.2.1) (mi_al (ho.2.2.1) (mi_al (ho.2.2.2.1) (mi_al (ho.2.2.2.2) (mi_al_e)))))) (fun h1 W _ hst => let ⟨_, k1, k2⟩ := kon h1 W; mf_call (M := (2, 1, sb_98)) (M' := (3, 0, sb_99)) rfl rfl rfl rfl (Nat.le_of_ble_eq_true rfl) (Nat.le_of_ble_eq_true rfl) W.1 k1 k2)
set_option maxRecDepth 20000 in
theorem mp_smA_3 (h : sm_H) (d : Nat) (zk : Int) : mj_path [(98, (2, 1, sb_98)), (90, (1, 0, sb_90))] sx_sk h 18 [0, 1, 0] (d + 7, 98, 0, [some (.inr (.inr 51)), some (.inl (zk))], [], [], []) = some ((d + 7, 98, 51, [some (.inr (.inr 51)), some (.inl (zk))], [.inr (.inr 11), .inr (.inr 52)], [.inl (6657, (0 : Int))], []), [((0 : Int)) ≤ zk, zk ≤ ((2 : Int)), 0 ≤ ((0 : Int)) ∧ ((0 : Int)) ≤ 240, zk = ((0 : Int))]) := rfl
theorem mi_tab_smA_3 : ∀ e ∈ ([(98, (2, 1, sb_98)), (90, (1, 0, sb_90))] : mi_T), sc_P e.1 = some e.2 := mi_tb mi_P98 (mi_tb mi_P90 (mi_tb_e))
set_option maxRecDepth 20000 in
theorem ms_smA_3 {h : sm_H} {d : Nat} {Q : Option mi_V → sm_H → Prop} {zk : Int} (hS : ab_Sh sx_sk h) (ok_zk : mi_in zk) (ho : (((0 : Int)) ≤ zk) ∧ (zk ≤ ((2 : Int))) ∧ (0 ≤ ((0 : Int)) ∧ ((0 : Int)) ≤ 240) ∧ (zk = ((0 : Int)))) (kon : ∀ h1, me_W [.inl (6657, (0 : Int))] h h1 → ∃ Q1, me_E (d + 6) 99 0 (mi_entry 3 [.inr (.inr 52), .inr (.inr 11)]) [] h1 Q1 ∧ ∀ w h2, (∀ x, w = some x → mi_ok x) → Q1 w h2 → me_E (d + 7) 98 54 [some (.inr (.inr 51)), some (.inl (zk))] (mi_back w []) h2 Q) : me_E (d + 7) 98 0 [some (.inr (.inr 51)), some (.inl (zk))] [] h Q := mf_seg (mp_smA_3 h d zk) (mi_tab_smA_3) hS (mi_okL_c (trivial) (mi_okL_c (ok_zk) (mi_okL_e))) (mi_okS_e) (mi_al (ho.1) (mi_al (ho.2.1) (mi_al (ho.2.2.1) (mi_al (ho.2.2.2) (mi_al_e))))) (fun h1 W _ hst => let ⟨_, k1, k2⟩ := kon h1 W; mf_call (M := (2, 1, sb_98)) (M' := (3, 0, sb_99)) rfl rfl rfl rfl (Nat.le_of_ble_eq_true rfl) (Nat.le_of_ble_eq_true rfl) W.1 k1 k2)
set_option maxRecDepth 20000 in
theorem mp_smA_4 (h : sm_H) (d : Nat) (zk : Int) : mj_path [(98, (2, 1, sb_98)), (90, (1, 0, sb_90))] sx_sk h 5 [0, 0] (d + 7, 98, 0, [some (.inr (.inr 51)), some (.inl (zk))], [], [], []) = some ((d + 7, 98, 9, [some (.inr (.inr 51)), some (.inl (zk))], [], [], []), [((0 : Int)) ≤ zk, ((2 : Int)) < zk]) := rfl
theorem mi_tab_smA_4 : ∀ e ∈ ([(98, (2, 1, sb_98)), (90, (1, 0, sb_90))] : mi_T), sc_P e.1 = some e.2 := mi_tb mi_P98 (mi_tb mi_P90 (mi_tb_e))
set_option maxRecDepth 20000 in
theorem ms_smA_4 {h : sm_H} {d : Nat} {Q : Option mi_V → sm_H → Prop} {zk : Int} (hS : ab_Sh sx_sk h) (ok_zk : mi_in zk) (ho : (((0 : Int)) ≤ zk) ∧ (((2 : Int)) < zk)) (kon : ∀ h1, me_W [] h h1 → me_E (d + 7) 98 9 [some (.inr (.inr 51)), some (.inl (zk))] [] h1 Q) : me_E (d + 7) 98 0 [some (.inr (.inr 51)), some (.inl (zk))] [] h Q := mf_seg (mp_smA_4 h d zk) (mi_tab_smA_4) hS (mi_okL_c (trivial) (mi_okL_c (ok_zk) (mi_okL_e))) (mi_okS_e) (mi_al (ho.1) (mi_al (ho.2) (mi_al_e))) (fun h1 W _ hst => kon h1 W)
set_option maxRecDepth 20000 in
theorem mt_smA {h : sm_H} {d : Nat} {Q : Option mi_V → sm_H → Prop} {zk : Int} (hS : ab_Sh sx_sk h) (ok_zk : mi_in zk) (k0 : (zk < ((0 : Int))) → (∀ h1, ab_Sh sx_sk h1 → ab_Fr [] h h1 → me_E (d + 7) 98 9 [some (.inr (.inr 51)), some (.inl (zk))] [] h1 Q)) (k1 : (((0 : Int)) ≤ zk) → (zk ≤ ((2 : Int))) → (zk ≠ ((0 : Int))) → (zk ≠ ((1 : Int))) → (∀ h1, ab_Sh sx_sk h1 → mi_f h1 6657 = (0 : Int) → ab_Fr [(6657, 6658)] h h1 → ∃ Q1, me_E (d + 6) 99 0 (mi_entry 3 [.inr (.inr 52), .inr (.inr 13)]) [] h1 Q1 ∧ ∀ w h2, (∀ x, w = some x → mi_ok x) → Q1 w h2 → me_E (d + 7) 98 54 [some (.inr (.inr 51)), some (.inl (zk))] (mi_back w []) h2 Q)) (k2 : (((0 : Int)) ≤ zk) → (zk ≤ ((2 : Int))) → (zk ≠ ((0 : Int))) → (zk = ((1 : Int))) → (∀ h1, ab_Sh sx_sk h1 → mi_f h1 6657 = (0 : Int) → ab_Fr [(6657, 6658)] h h1 → ∃ Q1, me_E (d + 6) 99 0 (mi_entry 3 [.inr (.inr 52), .inr (.inr 12)]) [] h1 Q1 ∧ ∀ w h2, (∀ x, w = some x → mi_ok x) → Q1 w h2 → me_E (d + 7) 98 54 [some (.inr (.inr 51)), some (.inl (zk))] (mi_back w []) h2 Q)) (k3 : (((0 : Int)) ≤ zk) → (zk ≤ ((2 : Int))) → (zk = ((0 : Int))) → (∀ h1, ab_Sh sx_sk h1 → mi_f h1 6657 = (0 : Int) → ab_Fr [(6657, 6658)] h h1 → ∃ Q1, me_E (d + 6) 99 0 (mi_entry 3 [.inr (.inr 52), .inr (.inr 11)]) [] h1 Q1 ∧ ∀ w h2, (∀ x, w = some x → mi_ok x) → Q1 w h2 → me_E (d + 7) 98 54 [some (.inr (.inr 51)), some (.inl (zk))] (mi_back w []) h2 Q)) (k4 : (((0 : Int)) ≤ zk) → (((2 : Int)) < zk) → (∀ h1, ab_Sh sx_sk h1 → ab_Fr [] h h1 → me_E (d + 7) 98 9 [some (.inr (.inr 51)), some (.inl (zk))] [] h1 Q)) : me_E (d + 7) 98 0 [some (.inr (.inr 51)), some (.inl (zk))] [] h Q := Or.elim (mi_em .lt (zk) (((0 : Int)))) (fun c0 => ms_smA_0 hS ok_zk (c0) (fun h1 W => (k0 c0) h1 W.1 (W.2.2.2.2.2 _ rfl))) (fun c0 => Or.elim (mi_em .le (zk) (((2 : Int)))) (fun c1 => Or.elim (mi_em .ne (zk) (((0 : Int)))) (fun c2 => Or.elim (mi_em .ne (zk) (((1 : Int)))) (fun c3 => ms_smA_1 hS ok_zk ⟨c0, c1, (by decide), c2, c3⟩ (fun h1 W => (k1 c0 c1 c2 c3) h1 W.1 (W.2.1 6657) (W.2.2.2.2.2 _ rfl))) (fun c3 => ms_smA_2 hS ok_zk ⟨c0, c1, (by decide), c2, c3⟩ (fun h1 W => (k2 c0 c1 c2 c3) h1 W.1 (W.2.1 6657) (W.2.2.2.2.2 _ rfl)))) (fun c2 => ms_smA_3 hS ok_zk ⟨c0, c1, (by decide), c2⟩ (fun h1 W => (k3 c0 c1 c2) h1 W.1 (W.2.1 6657) (W.2.2.2.2.2 _ rfl)))) (fun c1 => ms_smA_4 hS ok_zk ⟨c0, c1⟩ (fun h1 W => (k4 c0 c1) h1 W.1 (W.2.2.2.2.2 _ rfl))))
set_option maxRecDepth 20000 in
theorem mp_smB_0 (h : sm_H) (d : Nat) (zk : Int) : mj_path [(98, (2, 1, sb_98)), (22, (1, 1, sb_22))] sx_sk h 6 [] (d + 7, 98, 54, [some (.inr (.inr 51)), some (.inl (zk))], [], [], []) = some ((d + 7, 98, 61, [some (.inr (.inr 51)), some (.inl (zk))], [.inl (mi_f h 6657)], [], []), []) := rfl
theorem mi_tab_smB_0 : ∀ e ∈ ([(98, (2, 1, sb_98)), (22, (1, 1, sb_22))] : mi_T), sc_P e.1 = some e.2 := mi_tb mi_P98 (mi_tb mi_P22 (mi_tb_e))
set_option maxRecDepth 20000 in
theorem ms_smB_0 {h : sm_H} {d : Nat} {Q : Option mi_V → sm_H → Prop} {zk : Int} (hS : ab_Sh sx_sk h) (ok_zk : mi_in zk) (kon : ∀ h1, me_W [] h h1 → Q (some (.inl (mi_f h 6657))) h1) : me_E (d + 7) 98 54 [some (.inr (.inr 51)), some (.inl (zk))] [] h Q := mf_seg (mp_smB_0 h d zk) (mi_tab_smB_0) hS (mi_okL_c (trivial) (mi_okL_c (ok_zk) (mi_okL_e))) (mi_okS_e) (mi_al_e) (fun h1 W _ hst => mf_ret (M := (2, 1, sb_98)) rfl rfl rfl hst (mi_al_e) (kon h1 W))
set_option maxRecDepth 20000 in
theorem mt_smB {h : sm_H} {d : Nat} {Q : Option mi_V → sm_H → Prop} {zk : Int} (hS : ab_Sh sx_sk h) (ok_zk : mi_in zk) (k0 : (∀ h1, ab_Sh sx_sk h1 → ab_Fr [] h h1 → Q (some (.inl (mi_f h 6657))) h1)) : me_E (d + 7) 98 54 [some (.inr (.inr 51)), some (.inl (zk))] [] h Q := ms_smB_0 hS ok_zk (fun h1 W => (k0) h1 W.1 (W.2.2.2.2.2 _ rfl))
set_option maxRecDepth 20000 in
theorem mp_aa11A_0 (h : sm_H) (d : Nat) : mj_path [(99, (3, 0, sb_99))] sx_sk h 2 [] (d + 6, 99, 0, [some (.inr (.inr 52)), some (.inr (.inr 11)), none], [], [], []) = some ((d + 6, 99, 2, [some (.inr (.inr 52)), some (.inr (.inr 11)), some (.inl ((0 : Int)))], [], [], []), []) := rfl
theorem mi_tab_aa11A_0 : ∀ e ∈ ([(99, (3, 0, sb_99))] : mi_T), sc_P e.1 = some e.2 := mi_tb mi_P99 (mi_tb_e)
set_option maxRecDepth 20000 in
theorem ms_aa11A_0 {h : sm_H} {d : Nat} {Q : Option mi_V → sm_H → Prop} (hS : ab_Sh sx_sk h)  (kon : ∀ h1, me_W [] h h1 → me_E (d + 6) 99 2 [some (.inr (.inr 52)), some (.inr (.inr 11)), some (.inl ((0 : Int)))] [] h1 Q) : me_E (d + 6) 99 0 [some (.inr (.inr 52)), some (.inr (.inr 11)), none] [] h Q := mf_seg (mp_aa11A_0 h d ) (mi_tab_aa11A_0) hS (mi_okL_c (trivial) (mi_okL_c (trivial) (mi_okL_n (mi_okL_e)))) (mi_okS_e) (mi_al_e) (fun h1 W _ hst => kon h1 W)
set_option maxRecDepth 20000 in
theorem mt_aa11A {h : sm_H} {d : Nat} {Q : Option mi_V → sm_H → Prop} (hS : ab_Sh sx_sk h)  (k0 : (∀ h1, ab_Sh sx_sk h1 → ab_Fr [] h h1 → me_E (d + 6) 99 2 [some (.inr (.inr 52)), some (.inr (.inr 11)), some (.inl ((0 : Int)))] [] h1 Q)) : me_E (d + 6) 99 0 [some (.inr (.inr 52)), some (.inr (.inr 11)), none] [] h Q := ms_aa11A_0 hS (fun h1 W => (k0) h1 W.1 (W.2.2.2.2.2 _ rfl))
set_option maxRecDepth 20000 in
theorem mp_aa11B_0 (h : sm_H) (d : Nat) (zk : Int) : mj_path [(99, (3, 0, sb_99))] sx_sk h 2 [] (d + 6, 99, 2, [some (.inr (.inr 52)), some (.inr (.inr 11)), some (.inl (zk))], [], [], []) = some ((d + 6, 99, 4, [some (.inr (.inr 52)), some (.inr (.inr 11)), some (.inl (zk))], [.inr (.inr 11), .inl (zk)], [], []), []) := rfl
theorem mi_tab_aa11B_0 : ∀ e ∈ ([(99, (3, 0, sb_99))] : mi_T), sc_P e.1 = some e.2 := mi_tb mi_P99 (mi_tb_e)
set_option maxRecDepth 20000 in
theorem ms_aa11B_0 {h : sm_H} {d : Nat} {Q : Option mi_V → sm_H → Prop} {zk : Int} (hS : ab_Sh sx_sk h) (ok_zk : mi_in zk) (kon : ∀ h1, me_W [] h h1 → ∃ Q1, me_E (d + 5) 27 0 (mi_entry 1 [.inr (.inr 11)]) [] h1 Q1 ∧ ∀ w h2, (∀ x, w = some x → mi_ok x) → Q1 w h2 → me_E (d + 6) 99 7 [some (.inr (.inr 52)), some (.inr (.inr 11)), some (.inl (zk))] (mi_back w [.inl (zk)]) h2 Q) : me_E (d + 6) 99 2 [some (.inr (.inr 52)), some (.inr (.inr 11)), some (.inl (zk))] [] h Q := mf_seg (mp_aa11B_0 h d zk) (mi_tab_aa11B_0) hS (mi_okL_c (trivial) (mi_okL_c (trivial) (mi_okL_c (ok_zk) (mi_okL_e)))) (mi_okS_e) (mi_al_e) (fun h1 W _ hst => let ⟨_, k1, k2⟩ := kon h1 W; mf_call (M := (3, 0, sb_99)) (M' := (1, 1, sb_27)) rfl rfl rfl rfl (Nat.le_of_ble_eq_true rfl) (Nat.le_of_ble_eq_true rfl) W.1 k1 k2)
set_option maxRecDepth 20000 in
theorem mt_aa11B {h : sm_H} {d : Nat} {Q : Option mi_V → sm_H → Prop} {zk : Int} (hS : ab_Sh sx_sk h) (ok_zk : mi_in zk) (k0 : (∀ h1, ab_Sh sx_sk h1 → ab_Fr [] h h1 → ∃ Q1, me_E (d + 5) 27 0 (mi_entry 1 [.inr (.inr 11)]) [] h1 Q1 ∧ ∀ w h2, (∀ x, w = some x → mi_ok x) → Q1 w h2 → me_E (d + 6) 99 7 [some (.inr (.inr 52)), some (.inr (.inr 11)), some (.inl (zk))] (mi_back w [.inl (zk)]) h2 Q)) : me_E (d + 6) 99 2 [some (.inr (.inr 52)), some (.inr (.inr 11)), some (.inl (zk))] [] h Q := ms_aa11B_0 hS ok_zk (fun h1 W => (k0) h1 W.1 (W.2.2.2.2.2 _ rfl))
set_option maxRecDepth 20000 in
theorem mp_aa11C_0 (h : sm_H) (d : Nat) (zk zz zj : Int) : mj_path [(99, (3, 0, sb_99))] sx_sk h 1 [1] (d + 6, 99, 7, [some (.inr (.inr 52)), some (.inr (.inr 11)), some (.inl (zk))], [.inl (zz), .inl (zj)], [], []) = some ((d + 6, 99, 26, [some (.inr (.inr 52)), some (.inr (.inr 11)), some (.inl (zk))], [], [], []), [zz ≤ zj]) := rfl
theorem mi_tab_aa11C_0 : ∀ e ∈ ([(99, (3, 0, sb_99))] : mi_T), sc_P e.1 = some e.2 := mi_tb mi_P99 (mi_tb_e)
set_option maxRecDepth 20000 in
theorem ms_aa11C_0 {h : sm_H} {d : Nat} {Q : Option mi_V → sm_H → Prop} {zk zz zj : Int} (hS : ab_Sh sx_sk h) (ok_zk : mi_in zk) (ok_zz : mi_in zz) (ok_zj : mi_in zj) (ho : (zz ≤ zj)) (kon : ∀ h1, me_W [] h h1 → Q none h1) : me_E (d + 6) 99 7 [some (.inr (.inr 52)), some (.inr (.inr 11)), some (.inl (zk))] [.inl (zz), .inl (zj)] h Q := mf_seg (mp_aa11C_0 h d zk zz zj) (mi_tab_aa11C_0) hS (mi_okL_c (trivial) (mi_okL_c (trivial) (mi_okL_c (ok_zk) (mi_okL_e)))) (mi_okS_cons (ok_zz) (mi_okS_cons (ok_zj) (mi_okS_e))) (mi_al (ho) (mi_al_e)) (fun h1 W _ hst => mf_ret (M := (3, 0, sb_99)) rfl rfl rfl hst (mi_al_e) (kon h1 W))
set_option maxRecDepth 20000 in
theorem mp_aa11C_1 (h : sm_H) (d : Nat) (zk zz zj : Int) : mj_path [(99, (3, 0, sb_99))] sx_sk h 4 [0] (d + 6, 99, 7, [some (.inr (.inr 52)), some (.inr (.inr 11)), some (.inl (zk))], [.inl (zz), .inl (zj)], [], []) = some ((d + 6, 99, 13, [some (.inr (.inr 52)), some (.inr (.inr 11)), some (.inl (zk))], [.inl (zk), .inr (.inr 11), .inr (.inr 52)], [], []), [zj < zz]) := rfl
theorem mi_tab_aa11C_1 : ∀ e ∈ ([(99, (3, 0, sb_99))] : mi_T), sc_P e.1 = some e.2 := mi_tb mi_P99 (mi_tb_e)
set_option maxRecDepth 20000 in
theorem ms_aa11C_1 {h : sm_H} {d : Nat} {Q : Option mi_V → sm_H → Prop} {zk zz zj : Int} (hS : ab_Sh sx_sk h) (ok_zk : mi_in zk) (ok_zz : mi_in zz) (ok_zj : mi_in zj) (ho : (zj < zz)) (kon : ∀ h1, me_W [] h h1 → ∃ Q1, me_E (d + 5) 29 0 (mi_entry 2 [.inr (.inr 11), .inl (zk)]) [] h1 Q1 ∧ ∀ w h2, (∀ x, w = some x → mi_ok x) → Q1 w h2 → me_E (d + 6) 99 16 [some (.inr (.inr 52)), some (.inr (.inr 11)), some (.inl (zk))] (mi_back w [.inr (.inr 52)]) h2 Q) : me_E (d + 6) 99 7 [some (.inr (.inr 52)), some (.inr (.inr 11)), some (.inl (zk))] [.inl (zz), .inl (zj)] h Q := mf_seg (mp_aa11C_1 h d zk zz zj) (mi_tab_aa11C_1) hS (mi_okL_c (trivial) (mi_okL_c (trivial) (mi_okL_c (ok_zk) (mi_okL_e)))) (mi_okS_cons (ok_zz) (mi_okS_cons (ok_zj) (mi_okS_e))) (mi_al (ho) (mi_al_e)) (fun h1 W _ hst => let ⟨_, k1, k2⟩ := kon h1 W; mf_call (M := (3, 0, sb_99)) (M' := (2, 5, sb_29)) rfl rfl rfl rfl (Nat.le_of_ble_eq_true rfl) (Nat.le_of_ble_eq_true rfl) W.1 k1 k2)
set_option maxRecDepth 20000 in
theorem mt_aa11C {h : sm_H} {d : Nat} {Q : Option mi_V → sm_H → Prop} {zk zz zj : Int} (hS : ab_Sh sx_sk h) (ok_zk : mi_in zk) (ok_zz : mi_in zz) (ok_zj : mi_in zj) (k0 : (zz ≤ zj) → (∀ h1, ab_Sh sx_sk h1 → ab_Fr [] h h1 → Q none h1)) (k1 : (zj < zz) → (∀ h1, ab_Sh sx_sk h1 → ab_Fr [] h h1 → ∃ Q1, me_E (d + 5) 29 0 (mi_entry 2 [.inr (.inr 11), .inl (zk)]) [] h1 Q1 ∧ ∀ w h2, (∀ x, w = some x → mi_ok x) → Q1 w h2 → me_E (d + 6) 99 16 [some (.inr (.inr 52)), some (.inr (.inr 11)), some (.inl (zk))] (mi_back w [.inr (.inr 52)]) h2 Q)) : me_E (d + 6) 99 7 [some (.inr (.inr 52)), some (.inr (.inr 11)), some (.inl (zk))] [.inl (zz), .inl (zj)] h Q := Or.elim (mi_em .ge (zj) (zz)) (fun c0 => ms_aa11C_0 hS ok_zk ok_zz ok_zj (c0) (fun h1 W => (k0 c0) h1 W.1 (W.2.2.2.2.2 _ rfl))) (fun c0 => ms_aa11C_1 hS ok_zk ok_zz ok_zj (c0) (fun h1 W => (k1 c0) h1 W.1 (W.2.2.2.2.2 _ rfl)))
set_option maxRecDepth 20000 in
theorem mp_aa11D_0 (h : sm_H) (d : Nat) (zk zz : Int) : mj_path [(99, (3, 0, sb_99))] sx_sk h 0 [] (d + 6, 99, 16, [some (.inr (.inr 52)), some (.inr (.inr 11)), some (.inl (zk))], [.inl (zz), .inr (.inr 52)], [], []) = some ((d + 6, 99, 16, [some (.inr (.inr 52)), some (.inr (.inr 11)), some (.inl (zk))], [.inl (zz), .inr (.inr 52)], [], []), []) := rfl
theorem mi_tab_aa11D_0 : ∀ e ∈ ([(99, (3, 0, sb_99))] : mi_T), sc_P e.1 = some e.2 := mi_tb mi_P99 (mi_tb_e)
set_option maxRecDepth 20000 in
theorem ms_aa11D_0 {h : sm_H} {d : Nat} {Q : Option mi_V → sm_H → Prop} {zk zz : Int} (hS : ab_Sh sx_sk h) (ok_zk : mi_in zk) (ok_zz : mi_in zz) (kon : ∀ h1, me_W [] h h1 → ∃ Q1, me_E (d + 5) 91 0 (mi_entry 3 [.inr (.inr 52), .inl (zz)]) [] h1 Q1 ∧ ∀ w h2, (∀ x, w = some x → mi_ok x) → Q1 w h2 → me_E (d + 6) 99 19 [some (.inr (.inr 52)), some (.inr (.inr 11)), some (.inl (zk))] (mi_back w []) h2 Q) : me_E (d + 6) 99 16 [some (.inr (.inr 52)), some (.inr (.inr 11)), some (.inl (zk))] [.inl (zz), .inr (.inr 52)] h Q := mf_seg (mp_aa11D_0 h d zk zz) (mi_tab_aa11D_0) hS (mi_okL_c (trivial) (mi_okL_c (trivial) (mi_okL_c (ok_zk) (mi_okL_e)))) (mi_okS_cons (ok_zz) (mi_okS_cons (trivial) (mi_okS_e))) (mi_al_e) (fun h1 W _ hst => let ⟨_, k1, k2⟩ := kon h1 W; mf_call (M := (3, 0, sb_99)) (M' := (3, 4, sb_91)) rfl rfl rfl rfl (Nat.le_of_ble_eq_true rfl) (Nat.le_of_ble_eq_true rfl) W.1 k1 k2)
set_option maxRecDepth 20000 in
theorem mt_aa11D {h : sm_H} {d : Nat} {Q : Option mi_V → sm_H → Prop} {zk zz : Int} (hS : ab_Sh sx_sk h) (ok_zk : mi_in zk) (ok_zz : mi_in zz) (k0 : (∀ h1, ab_Sh sx_sk h1 → ab_Fr [] h h1 → ∃ Q1, me_E (d + 5) 91 0 (mi_entry 3 [.inr (.inr 52), .inl (zz)]) [] h1 Q1 ∧ ∀ w h2, (∀ x, w = some x → mi_ok x) → Q1 w h2 → me_E (d + 6) 99 19 [some (.inr (.inr 52)), some (.inr (.inr 11)), some (.inl (zk))] (mi_back w []) h2 Q)) : me_E (d + 6) 99 16 [some (.inr (.inr 52)), some (.inr (.inr 11)), some (.inl (zk))] [.inl (zz), .inr (.inr 52)] h Q := ms_aa11D_0 hS ok_zk ok_zz (fun h1 W => (k0) h1 W.1 (W.2.2.2.2.2 _ rfl))
set_option maxRecDepth 20000 in
theorem mp_aa11E_0 (h : sm_H) (d : Nat) (zk zz : Int) : mj_path [(99, (3, 0, sb_99))] sx_sk h 3 [] (d + 6, 99, 19, [some (.inr (.inr 52)), some (.inr (.inr 11)), some (.inl (zk))], [.inl (zz)], [], []) = some ((d + 6, 99, 2, [some (.inr (.inr 52)), some (.inr (.inr 11)), some (.inl (zk + 1))], [], [], []), [-2147483648 ≤ zk + 1 ∧ zk + 1 ≤ 2147483647]) := rfl
theorem mi_tab_aa11E_0 : ∀ e ∈ ([(99, (3, 0, sb_99))] : mi_T), sc_P e.1 = some e.2 := mi_tb mi_P99 (mi_tb_e)
set_option maxRecDepth 20000 in
theorem ms_aa11E_0 {h : sm_H} {d : Nat} {Q : Option mi_V → sm_H → Prop} {zk zz : Int} (hS : ab_Sh sx_sk h) (ok_zk : mi_in zk) (ok_zz : mi_in zz) (ho : (-2147483648 ≤ zk + 1 ∧ zk + 1 ≤ 2147483647)) (kon : ∀ h1, me_W [] h h1 → me_E (d + 6) 99 2 [some (.inr (.inr 52)), some (.inr (.inr 11)), some (.inl (zk + 1))] [] h1 Q) : me_E (d + 6) 99 19 [some (.inr (.inr 52)), some (.inr (.inr 11)), some (.inl (zk))] [.inl (zz)] h Q := mf_seg (mp_aa11E_0 h d zk zz) (mi_tab_aa11E_0) hS (mi_okL_c (trivial) (mi_okL_c (trivial) (mi_okL_c (ok_zk) (mi_okL_e)))) (mi_okS_cons (ok_zz) (mi_okS_e)) (mi_al (ho) (mi_al_e)) (fun h1 W _ hst => kon h1 W)
set_option maxRecDepth 20000 in
theorem mt_aa11E {h : sm_H} {d : Nat} {Q : Option mi_V → sm_H → Prop} {zk zz : Int} (hS : ab_Sh sx_sk h) (ok_zk : mi_in zk) (ok_zz : mi_in zz) (k0 : ((-2147483648 ≤ zk + 1 ∧ zk + 1 ≤ 2147483647)) ∧ (∀ h1, ab_Sh sx_sk h1 → ab_Fr [] h h1 → me_E (d + 6) 99 2 [some (.inr (.inr 52)), some (.inr (.inr 11)), some (.inl (zk + 1))] [] h1 Q)) : me_E (d + 6) 99 19 [some (.inr (.inr 52)), some (.inr (.inr 11)), some (.inl (zk))] [.inl (zz)] h Q := ms_aa11E_0 hS ok_zk ok_zz ((k0).1) (fun h1 W => (k0).2 h1 W.1 (W.2.2.2.2.2 _ rfl))
set_option maxRecDepth 20000 in
theorem mp_aa12A_0 (h : sm_H) (d : Nat) : mj_path [(99, (3, 0, sb_99))] sx_sk h 2 [] (d + 6, 99, 0, [some (.inr (.inr 52)), some (.inr (.inr 12)), none], [], [], []) = some ((d + 6, 99, 2, [some (.inr (.inr 52)), some (.inr (.inr 12)), some (.inl ((0 : Int)))], [], [], []), []) := rfl
theorem mi_tab_aa12A_0 : ∀ e ∈ ([(99, (3, 0, sb_99))] : mi_T), sc_P e.1 = some e.2 := mi_tb mi_P99 (mi_tb_e)
set_option maxRecDepth 20000 in
theorem ms_aa12A_0 {h : sm_H} {d : Nat} {Q : Option mi_V → sm_H → Prop} (hS : ab_Sh sx_sk h)  (kon : ∀ h1, me_W [] h h1 → me_E (d + 6) 99 2 [some (.inr (.inr 52)), some (.inr (.inr 12)), some (.inl ((0 : Int)))] [] h1 Q) : me_E (d + 6) 99 0 [some (.inr (.inr 52)), some (.inr (.inr 12)), none] [] h Q := mf_seg (mp_aa12A_0 h d ) (mi_tab_aa12A_0) hS (mi_okL_c (trivial) (mi_okL_c (trivial) (mi_okL_n (mi_okL_e)))) (mi_okS_e) (mi_al_e) (fun h1 W _ hst => kon h1 W)
set_option maxRecDepth 20000 in
theorem mt_aa12A {h : sm_H} {d : Nat} {Q : Option mi_V → sm_H → Prop} (hS : ab_Sh sx_sk h)  (k0 : (∀ h1, ab_Sh sx_sk h1 → ab_Fr [] h h1 → me_E (d + 6) 99 2 [some (.inr (.inr 52)), some (.inr (.inr 12)), some (.inl ((0 : Int)))] [] h1 Q)) : me_E (d + 6) 99 0 [some (.inr (.inr 52)), some (.inr (.inr 12)), none] [] h Q := ms_aa12A_0 hS (fun h1 W => (k0) h1 W.1 (W.2.2.2.2.2 _ rfl))
set_option maxRecDepth 20000 in
theorem mp_aa12B_0 (h : sm_H) (d : Nat) (zk : Int) : mj_path [(99, (3, 0, sb_99))] sx_sk h 2 [] (d + 6, 99, 2, [some (.inr (.inr 52)), some (.inr (.inr 12)), some (.inl (zk))], [], [], []) = some ((d + 6, 99, 4, [some (.inr (.inr 52)), some (.inr (.inr 12)), some (.inl (zk))], [.inr (.inr 12), .inl (zk)], [], []), []) := rfl
theorem mi_tab_aa12B_0 : ∀ e ∈ ([(99, (3, 0, sb_99))] : mi_T), sc_P e.1 = some e.2 := mi_tb mi_P99 (mi_tb_e)
set_option maxRecDepth 20000 in
theorem ms_aa12B_0 {h : sm_H} {d : Nat} {Q : Option mi_V → sm_H → Prop} {zk : Int} (hS : ab_Sh sx_sk h) (ok_zk : mi_in zk) (kon : ∀ h1, me_W [] h h1 → ∃ Q1, me_E (d + 5) 27 0 (mi_entry 1 [.inr (.inr 12)]) [] h1 Q1 ∧ ∀ w h2, (∀ x, w = some x → mi_ok x) → Q1 w h2 → me_E (d + 6) 99 7 [some (.inr (.inr 52)), some (.inr (.inr 12)), some (.inl (zk))] (mi_back w [.inl (zk)]) h2 Q) : me_E (d + 6) 99 2 [some (.inr (.inr 52)), some (.inr (.inr 12)), some (.inl (zk))] [] h Q := mf_seg (mp_aa12B_0 h d zk) (mi_tab_aa12B_0) hS (mi_okL_c (trivial) (mi_okL_c (trivial) (mi_okL_c (ok_zk) (mi_okL_e)))) (mi_okS_e) (mi_al_e) (fun h1 W _ hst => let ⟨_, k1, k2⟩ := kon h1 W; mf_call (M := (3, 0, sb_99)) (M' := (1, 1, sb_27)) rfl rfl rfl rfl (Nat.le_of_ble_eq_true rfl) (Nat.le_of_ble_eq_true rfl) W.1 k1 k2)
set_option maxRecDepth 20000 in
theorem mt_aa12B {h : sm_H} {d : Nat} {Q : Option mi_V → sm_H → Prop} {zk : Int} (hS : ab_Sh sx_sk h) (ok_zk : mi_in zk) (k0 : (∀ h1, ab_Sh sx_sk h1 → ab_Fr [] h h1 → ∃ Q1, me_E (d + 5) 27 0 (mi_entry 1 [.inr (.inr 12)]) [] h1 Q1 ∧ ∀ w h2, (∀ x, w = some x → mi_ok x) → Q1 w h2 → me_E (d + 6) 99 7 [some (.inr (.inr 52)), some (.inr (.inr 12)), some (.inl (zk))] (mi_back w [.inl (zk)]) h2 Q)) : me_E (d + 6) 99 2 [some (.inr (.inr 52)), some (.inr (.inr 12)), some (.inl (zk))] [] h Q := ms_aa12B_0 hS ok_zk (fun h1 W => (k0) h1 W.1 (W.2.2.2.2.2 _ rfl))
set_option maxRecDepth 20000 in
theorem mp_aa12C_0 (h : sm_H) (d : Nat) (zk zz zj : Int) : mj_path [(99, (3, 0, sb_99))] sx_sk h 1 [1] (d + 6, 99, 7, [some (.inr (.inr 52)), some (.inr (.inr 12)), some (.inl (zk))], [.inl (zz), .inl (zj)], [], []) = some ((d + 6, 99, 26, [some (.inr (.inr 52)), some (.inr (.inr 12)), some (.inl (zk))], [], [], []), [zz ≤ zj]) := rfl
theorem mi_tab_aa12C_0 : ∀ e ∈ ([(99, (3, 0, sb_99))] : mi_T), sc_P e.1 = some e.2 := mi_tb mi_P99 (mi_tb_e)
set_option maxRecDepth 20000 in
theorem ms_aa12C_0 {h : sm_H} {d : Nat} {Q : Option mi_V → sm_H → Prop} {zk zz zj : Int} (hS : ab_Sh sx_sk h) (ok_zk : mi_in zk) (ok_zz : mi_in zz) (ok_zj : mi_in zj) (ho : (zz ≤ zj)) (kon : ∀ h1, me_W [] h h1 → Q none h1) : me_E (d + 6) 99 7 [some (.inr (.inr 52)), some (.inr (.inr 12)), some (.inl (zk))] [.inl (zz), .inl (zj)] h Q := mf_seg (mp_aa12C_0 h d zk zz zj) (mi_tab_aa12C_0) hS (mi_okL_c (trivial) (mi_okL_c (trivial) (mi_okL_c (ok_zk) (mi_okL_e)))) (mi_okS_cons (ok_zz) (mi_okS_cons (ok_zj) (mi_okS_e))) (mi_al (ho) (mi_al_e)) (fun h1 W _ hst => mf_ret (M := (3, 0, sb_99)) rfl rfl rfl hst (mi_al_e) (kon h1 W))
set_option maxRecDepth 20000 in
theorem mp_aa12C_1 (h : sm_H) (d : Nat) (zk zz zj : Int) : mj_path [(99, (3, 0, sb_99))] sx_sk h 4 [0] (d + 6, 99, 7, [some (.inr (.inr 52)), some (.inr (.inr 12)), some (.inl (zk))], [.inl (zz), .inl (zj)], [], []) = some ((d + 6, 99, 13, [some (.inr (.inr 52)), some (.inr (.inr 12)), some (.inl (zk))], [.inl (zk), .inr (.inr 12), .inr (.inr 52)], [], []), [zj < zz]) := rfl
theorem mi_tab_aa12C_1 : ∀ e ∈ ([(99, (3, 0, sb_99))] : mi_T), sc_P e.1 = some e.2 := mi_tb mi_P99 (mi_tb_e)
set_option maxRecDepth 20000 in
theorem ms_aa12C_1 {h : sm_H} {d : Nat} {Q : Option mi_V → sm_H → Prop} {zk zz zj : Int} (hS : ab_Sh sx_sk h) (ok_zk : mi_in zk) (ok_zz : mi_in zz) (ok_zj : mi_in zj) (ho : (zj < zz)) (kon : ∀ h1, me_W [] h h1 → ∃ Q1, me_E (d + 5) 29 0 (mi_entry 2 [.inr (.inr 12), .inl (zk)]) [] h1 Q1 ∧ ∀ w h2, (∀ x, w = some x → mi_ok x) → Q1 w h2 → me_E (d + 6) 99 16 [some (.inr (.inr 52)), some (.inr (.inr 12)), some (.inl (zk))] (mi_back w [.inr (.inr 52)]) h2 Q) : me_E (d + 6) 99 7 [some (.inr (.inr 52)), some (.inr (.inr 12)), some (.inl (zk))] [.inl (zz), .inl (zj)] h Q := mf_seg (mp_aa12C_1 h d zk zz zj) (mi_tab_aa12C_1) hS (mi_okL_c (trivial) (mi_okL_c (trivial) (mi_okL_c (ok_zk) (mi_okL_e)))) (mi_okS_cons (ok_zz) (mi_okS_cons (ok_zj) (mi_okS_e))) (mi_al (ho) (mi_al_e)) (fun h1 W _ hst => let ⟨_, k1, k2⟩ := kon h1 W; mf_call (M := (3, 0, sb_99)) (M' := (2, 5, sb_29)) rfl rfl rfl rfl (Nat.le_of_ble_eq_true rfl) (Nat.le_of_ble_eq_true rfl) W.1 k1 k2)
set_option maxRecDepth 20000 in
theorem mt_aa12C {h : sm_H} {d : Nat} {Q : Option mi_V → sm_H → Prop} {zk zz zj : Int} (hS : ab_Sh sx_sk h) (ok_zk : mi_in zk) (ok_zz : mi_in zz) (ok_zj : mi_in zj) (k0 : (zz ≤ zj) → (∀ h1, ab_Sh sx_sk h1 → ab_Fr [] h h1 → Q none h1)) (k1 : (zj < zz) → (∀ h1, ab_Sh sx_sk h1 → ab_Fr [] h h1 → ∃ Q1, me_E (d + 5) 29 0 (mi_entry 2 [.inr (.inr 12), .inl (zk)]) [] h1 Q1 ∧ ∀ w h2, (∀ x, w = some x → mi_ok x) → Q1 w h2 → me_E (d + 6) 99 16 [some (.inr (.inr 52)), some (.inr (.inr 12)), some (.inl (zk))] (mi_back w [.inr (.inr 52)]) h2 Q)) : me_E (d + 6) 99 7 [some (.inr (.inr 52)), some (.inr (.inr 12)), some (.inl (zk))] [.inl (zz), .inl (zj)] h Q := Or.elim (mi_em .ge (zj) (zz)) (fun c0 => ms_aa12C_0 hS ok_zk ok_zz ok_zj (c0) (fun h1 W => (k0 c0) h1 W.1 (W.2.2.2.2.2 _ rfl))) (fun c0 => ms_aa12C_1 hS ok_zk ok_zz ok_zj (c0) (fun h1 W => (k1 c0) h1 W.1 (W.2.2.2.2.2 _ rfl)))
set_option maxRecDepth 20000 in
theorem mp_aa12D_0 (h : sm_H) (d : Nat) (zk zz : Int) : mj_path [(99, (3, 0, sb_99))] sx_sk h 0 [] (d + 6, 99, 16, [some (.inr (.inr 52)), some (.inr (.inr 12)), some (.inl (zk))], [.inl (zz), .inr (.inr 52)], [], []) = some ((d + 6, 99, 16, [some (.inr (.inr 52)), some (.inr (.inr 12)), some (.inl (zk))], [.inl (zz), .inr (.inr 52)], [], []), []) := rfl
theorem mi_tab_aa12D_0 : ∀ e ∈ ([(99, (3, 0, sb_99))] : mi_T), sc_P e.1 = some e.2 := mi_tb mi_P99 (mi_tb_e)
set_option maxRecDepth 20000 in
theorem ms_aa12D_0 {h : sm_H} {d : Nat} {Q : Option mi_V → sm_H → Prop} {zk zz : Int} (hS : ab_Sh sx_sk h) (ok_zk : mi_in zk) (ok_zz : mi_in zz) (kon : ∀ h1, me_W [] h h1 → ∃ Q1, me_E (d + 5) 91 0 (mi_entry 3 [.inr (.inr 52), .inl (zz)]) [] h1 Q1 ∧ ∀ w h2, (∀ x, w = some x → mi_ok x) → Q1 w h2 → me_E (d + 6) 99 19 [some (.inr (.inr 52)), some (.inr (.inr 12)), some (.inl (zk))] (mi_back w []) h2 Q) : me_E (d + 6) 99 16 [some (.inr (.inr 52)), some (.inr (.inr 12)), some (.inl (zk))] [.inl (zz), .inr (.inr 52)] h Q := mf_seg (mp_aa12D_0 h d zk zz) (mi_tab_aa12D_0) hS (mi_okL_c (trivial) (mi_okL_c (trivial) (mi_okL_c (ok_zk) (mi_okL_e)))) (mi_okS_cons (ok_zz) (mi_okS_cons (trivial) (mi_okS_e))) (mi_al_e) (fun h1 W _ hst => let ⟨_, k1, k2⟩ := kon h1 W; mf_call (M := (3, 0, sb_99)) (M' := (3, 4, sb_91)) rfl rfl rfl rfl (Nat.le_of_ble_eq_true rfl) (Nat.le_of_ble_eq_true rfl) W.1 k1 k2)
set_option maxRecDepth 20000 in
theorem mt_aa12D {h : sm_H} {d : Nat} {Q : Option mi_V → sm_H → Prop} {zk zz : Int} (hS : ab_Sh sx_sk h) (ok_zk : mi_in zk) (ok_zz : mi_in zz) (k0 : (∀ h1, ab_Sh sx_sk h1 → ab_Fr [] h h1 → ∃ Q1, me_E (d + 5) 91 0 (mi_entry 3 [.inr (.inr 52), .inl (zz)]) [] h1 Q1 ∧ ∀ w h2, (∀ x, w = some x → mi_ok x) → Q1 w h2 → me_E (d + 6) 99 19 [some (.inr (.inr 52)), some (.inr (.inr 12)), some (.inl (zk))] (mi_back w []) h2 Q)) : me_E (d + 6) 99 16 [some (.inr (.inr 52)), some (.inr (.inr 12)), some (.inl (zk))] [.inl (zz), .inr (.inr 52)] h Q := ms_aa12D_0 hS ok_zk ok_zz (fun h1 W => (k0) h1 W.1 (W.2.2.2.2.2 _ rfl))
set_option maxRecDepth 20000 in
theorem mp_aa12E_0 (h : sm_H) (d : Nat) (zk zz : Int) : mj_path [(99, (3, 0, sb_99))] sx_sk h 3 [] (d + 6, 99, 19, [some (.inr (.inr 52)), some (.inr (.inr 12)), some (.inl (zk))], [.inl (zz)], [], []) = some ((d + 6, 99, 2, [some (.inr (.inr 52)), some (.inr (.inr 12)), some (.inl (zk + 1))], [], [], []), [-2147483648 ≤ zk + 1 ∧ zk + 1 ≤ 2147483647]) := rfl
theorem mi_tab_aa12E_0 : ∀ e ∈ ([(99, (3, 0, sb_99))] : mi_T), sc_P e.1 = some e.2 := mi_tb mi_P99 (mi_tb_e)
set_option maxRecDepth 20000 in
theorem ms_aa12E_0 {h : sm_H} {d : Nat} {Q : Option mi_V → sm_H → Prop} {zk zz : Int} (hS : ab_Sh sx_sk h) (ok_zk : mi_in zk) (ok_zz : mi_in zz) (ho : (-2147483648 ≤ zk + 1 ∧ zk + 1 ≤ 2147483647)) (kon : ∀ h1, me_W [] h h1 → me_E (d + 6) 99 2 [some (.inr (.inr 52)), some (.inr (.inr 12)), some (.inl (zk + 1))] [] h1 Q) : me_E (d + 6) 99 19 [some (.inr (.inr 52)), some (.inr (.inr 12)), some (.inl (zk))] [.inl (zz)] h Q := mf_seg (mp_aa12E_0 h d zk zz) (mi_tab_aa12E_0) hS (mi_okL_c (trivial) (mi_okL_c (trivial) (mi_okL_c (ok_zk) (mi_okL_e)))) (mi_okS_cons (ok_zz) (mi_okS_e)) (mi_al (ho) (mi_al_e)) (fun h1 W _ hst => kon h1 W)
set_option maxRecDepth 20000 in
theorem mt_aa12E {h : sm_H} {d : Nat} {Q : Option mi_V → sm_H → Prop} {zk zz : Int} (hS : ab_Sh sx_sk h) (ok_zk : mi_in zk) (ok_zz : mi_in zz) (k0 : ((-2147483648 ≤ zk + 1 ∧ zk + 1 ≤ 2147483647)) ∧ (∀ h1, ab_Sh sx_sk h1 → ab_Fr [] h h1 → me_E (d + 6) 99 2 [some (.inr (.inr 52)), some (.inr (.inr 12)), some (.inl (zk + 1))] [] h1 Q)) : me_E (d + 6) 99 19 [some (.inr (.inr 52)), some (.inr (.inr 12)), some (.inl (zk))] [.inl (zz)] h Q := ms_aa12E_0 hS ok_zk ok_zz ((k0).1) (fun h1 W => (k0).2 h1 W.1 (W.2.2.2.2.2 _ rfl))
set_option maxRecDepth 20000 in
theorem mp_aa13A_0 (h : sm_H) (d : Nat) : mj_path [(99, (3, 0, sb_99))] sx_sk h 2 [] (d + 6, 99, 0, [some (.inr (.inr 52)), some (.inr (.inr 13)), none], [], [], []) = some ((d + 6, 99, 2, [some (.inr (.inr 52)), some (.inr (.inr 13)), some (.inl ((0 : Int)))], [], [], []), []) := rfl
theorem mi_tab_aa13A_0 : ∀ e ∈ ([(99, (3, 0, sb_99))] : mi_T), sc_P e.1 = some e.2 := mi_tb mi_P99 (mi_tb_e)
set_option maxRecDepth 20000 in
theorem ms_aa13A_0 {h : sm_H} {d : Nat} {Q : Option mi_V → sm_H → Prop} (hS : ab_Sh sx_sk h)  (kon : ∀ h1, me_W [] h h1 → me_E (d + 6) 99 2 [some (.inr (.inr 52)), some (.inr (.inr 13)), some (.inl ((0 : Int)))] [] h1 Q) : me_E (d + 6) 99 0 [some (.inr (.inr 52)), some (.inr (.inr 13)), none] [] h Q := mf_seg (mp_aa13A_0 h d ) (mi_tab_aa13A_0) hS (mi_okL_c (trivial) (mi_okL_c (trivial) (mi_okL_n (mi_okL_e)))) (mi_okS_e) (mi_al_e) (fun h1 W _ hst => kon h1 W)
set_option maxRecDepth 20000 in
theorem mt_aa13A {h : sm_H} {d : Nat} {Q : Option mi_V → sm_H → Prop} (hS : ab_Sh sx_sk h)  (k0 : (∀ h1, ab_Sh sx_sk h1 → ab_Fr [] h h1 → me_E (d + 6) 99 2 [some (.inr (.inr 52)), some (.inr (.inr 13)), some (.inl ((0 : Int)))] [] h1 Q)) : me_E (d + 6) 99 0 [some (.inr (.inr 52)), some (.inr (.inr 13)), none] [] h Q := ms_aa13A_0 hS (fun h1 W => (k0) h1 W.1 (W.2.2.2.2.2 _ rfl))
set_option maxRecDepth 20000 in
theorem mp_aa13B_0 (h : sm_H) (d : Nat) (zk : Int) : mj_path [(99, (3, 0, sb_99))] sx_sk h 2 [] (d + 6, 99, 2, [some (.inr (.inr 52)), some (.inr (.inr 13)), some (.inl (zk))], [], [], []) = some ((d + 6, 99, 4, [some (.inr (.inr 52)), some (.inr (.inr 13)), some (.inl (zk))], [.inr (.inr 13), .inl (zk)], [], []), []) := rfl
theorem mi_tab_aa13B_0 : ∀ e ∈ ([(99, (3, 0, sb_99))] : mi_T), sc_P e.1 = some e.2 := mi_tb mi_P99 (mi_tb_e)
set_option maxRecDepth 20000 in
theorem ms_aa13B_0 {h : sm_H} {d : Nat} {Q : Option mi_V → sm_H → Prop} {zk : Int} (hS : ab_Sh sx_sk h) (ok_zk : mi_in zk) (kon : ∀ h1, me_W [] h h1 → ∃ Q1, me_E (d + 5) 27 0 (mi_entry 1 [.inr (.inr 13)]) [] h1 Q1 ∧ ∀ w h2, (∀ x, w = some x → mi_ok x) → Q1 w h2 → me_E (d + 6) 99 7 [some (.inr (.inr 52)), some (.inr (.inr 13)), some (.inl (zk))] (mi_back w [.inl (zk)]) h2 Q) : me_E (d + 6) 99 2 [some (.inr (.inr 52)), some (.inr (.inr 13)), some (.inl (zk))] [] h Q := mf_seg (mp_aa13B_0 h d zk) (mi_tab_aa13B_0) hS (mi_okL_c (trivial) (mi_okL_c (trivial) (mi_okL_c (ok_zk) (mi_okL_e)))) (mi_okS_e) (mi_al_e) (fun h1 W _ hst => let ⟨_, k1, k2⟩ := kon h1 W; mf_call (M := (3, 0, sb_99)) (M' := (1, 1, sb_27)) rfl rfl rfl rfl (Nat.le_of_ble_eq_true rfl) (Nat.le_of_ble_eq_true rfl) W.1 k1 k2)
set_option maxRecDepth 20000 in
theorem mt_aa13B {h : sm_H} {d : Nat} {Q : Option mi_V → sm_H → Prop} {zk : Int} (hS : ab_Sh sx_sk h) (ok_zk : mi_in zk) (k0 : (∀ h1, ab_Sh sx_sk h1 → ab_Fr [] h h1 → ∃ Q1, me_E (d + 5) 27 0 (mi_entry 1 [.inr (.inr 13)]) [] h1 Q1 ∧ ∀ w h2, (∀ x, w = some x → mi_ok x) → Q1 w h2 → me_E (d + 6) 99 7 [some (.inr (.inr 52)), some (.inr (.inr 13)), some (.inl (zk))] (mi_back w [.inl (zk)]) h2 Q)) : me_E (d + 6) 99 2 [some (.inr (.inr 52)), some (.inr (.inr 13)), some (.inl (zk))] [] h Q := ms_aa13B_0 hS ok_zk (fun h1 W => (k0) h1 W.1 (W.2.2.2.2.2 _ rfl))
set_option maxRecDepth 20000 in
theorem mp_aa13C_0 (h : sm_H) (d : Nat) (zk zz zj : Int) : mj_path [(99, (3, 0, sb_99))] sx_sk h 1 [1] (d + 6, 99, 7, [some (.inr (.inr 52)), some (.inr (.inr 13)), some (.inl (zk))], [.inl (zz), .inl (zj)], [], []) = some ((d + 6, 99, 26, [some (.inr (.inr 52)), some (.inr (.inr 13)), some (.inl (zk))], [], [], []), [zz ≤ zj]) := rfl
theorem mi_tab_aa13C_0 : ∀ e ∈ ([(99, (3, 0, sb_99))] : mi_T), sc_P e.1 = some e.2 := mi_tb mi_P99 (mi_tb_e)
set_option maxRecDepth 20000 in
theorem ms_aa13C_0 {h : sm_H} {d : Nat} {Q : Option mi_V → sm_H → Prop} {zk zz zj : Int} (hS : ab_Sh sx_sk h) (ok_zk : mi_in zk) (ok_zz : mi_in zz) (ok_zj : mi_in zj) (ho : (zz ≤ zj)) (kon : ∀ h1, me_W [] h h1 → Q none h1) : me_E (d + 6) 99 7 [some (.inr (.inr 52)), some (.inr (.inr 13)), some (.inl (zk))] [.inl (zz), .inl (zj)] h Q := mf_seg (mp_aa13C_0 h d zk zz zj) (mi_tab_aa13C_0) hS (mi_okL_c (trivial) (mi_okL_c (trivial) (mi_okL_c (ok_zk) (mi_okL_e)))) (mi_okS_cons (ok_zz) (mi_okS_cons (ok_zj) (mi_okS_e))) (mi_al (ho) (mi_al_e)) (fun h1 W _ hst => mf_ret (M := (3, 0, sb_99)) rfl rfl rfl hst (mi_al_e) (kon h1 W))
set_option maxRecDepth 20000 in
theorem mp_aa13C_1 (h : sm_H) (d : Nat) (zk zz zj : Int) : mj_path [(99, (3, 0, sb_99))] sx_sk h 4 [0] (d + 6, 99, 7, [some (.inr (.inr 52)), some (.inr (.inr 13)), some (.inl (zk))], [.inl (zz), .inl (zj)], [], []) = some ((d + 6, 99, 13, [some (.inr (.inr 52)), some (.inr (.inr 13)), some (.inl (zk))], [.inl (zk), .inr (.inr 13), .inr (.inr 52)], [], []), [zj < zz]) := rfl
theorem mi_tab_aa13C_1 : ∀ e ∈ ([(99, (3, 0, sb_99))] : mi_T), sc_P e.1 = some e.2 := mi_tb mi_P99 (mi_tb_e)
set_option maxRecDepth 20000 in
theorem ms_aa13C_1 {h : sm_H} {d : Nat} {Q : Option mi_V → sm_H → Prop} {zk zz zj : Int} (hS : ab_Sh sx_sk h) (ok_zk : mi_in zk) (ok_zz : mi_in zz) (ok_zj : mi_in zj) (ho : (zj < zz)) (kon : ∀ h1, me_W [] h h1 → ∃ Q1, me_E (d + 5) 29 0 (mi_entry 2 [.inr (.inr 13), .inl (zk)]) [] h1 Q1 ∧ ∀ w h2, (∀ x, w = some x → mi_ok x) → Q1 w h2 → me_E (d + 6) 99 16 [some (.inr (.inr 52)), some (.inr (.inr 13)), some (.inl (zk))] (mi_back w [.inr (.inr 52)]) h2 Q) : me_E (d + 6) 99 7 [some (.inr (.inr 52)), some (.inr (.inr 13)), some (.inl (zk))] [.inl (zz), .inl (zj)] h Q := mf_seg (mp_aa13C_1 h d zk zz zj) (mi_tab_aa13C_1) hS (mi_okL_c (trivial) (mi_okL_c (trivial) (mi_okL_c (ok_zk) (mi_okL_e)))) (mi_okS_cons (ok_zz) (mi_okS_cons (ok_zj) (mi_okS_e))) (mi_al (ho) (mi_al_e)) (fun h1 W _ hst => let ⟨_, k1, k2⟩ := kon h1 W; mf_call (M := (3, 0, sb_99)) (M' := (2, 5, sb_29)) rfl rfl rfl rfl (Nat.le_of_ble_eq_true rfl) (Nat.le_of_ble_eq_true rfl) W.1 k1 k2)
set_option maxRecDepth 20000 in
theorem mt_aa13C {h : sm_H} {d : Nat} {Q : Option mi_V → sm_H → Prop} {zk zz zj : Int} (hS : ab_Sh sx_sk h) (ok_zk : mi_in zk) (ok_zz : mi_in zz) (ok_zj : mi_in zj) (k0 : (zz ≤ zj) → (∀ h1, ab_Sh sx_sk h1 → ab_Fr [] h h1 → Q none h1)) (k1 : (zj < zz) → (∀ h1, ab_Sh sx_sk h1 → ab_Fr [] h h1 → ∃ Q1, me_E (d + 5) 29 0 (mi_entry 2 [.inr (.inr 13), .inl (zk)]) [] h1 Q1 ∧ ∀ w h2, (∀ x, w = some x → mi_ok x) → Q1 w h2 → me_E (d + 6) 99 16 [some (.inr (.inr 52)), some (.inr (.inr 13)), some (.inl (zk))] (mi_back w [.inr (.inr 52)]) h2 Q)) : me_E (d + 6) 99 7 [some (.inr (.inr 52)), some (.inr (.inr 13)), some (.inl (zk))] [.inl (zz), .inl (zj)] h Q := Or.elim (mi_em .ge (zj) (zz)) (fun c0 => ms_aa13C_0 hS ok_zk ok_zz ok_zj (c0) (fun h1 W => (k0 c0) h1 W.1 (W.2.2.2.2.2 _ rfl))) (fun c0 => ms_aa13C_1 hS ok_zk ok_zz ok_zj (c0) (fun h1 W => (k1 c0) h1 W.1 (W.2.2.2.2.2 _ rfl)))
set_option maxRecDepth 20000 in
theorem mp_aa13D_0 (h : sm_H) (d : Nat) (zk zz : Int) : mj_path [(99, (3, 0, sb_99))] sx_sk h 0 [] (d + 6, 99, 16, [some (.inr (.inr 52)), some (.inr (.inr 13)), some (.inl (zk))], [.inl (zz), .inr (.inr 52)], [], []) = some ((d + 6, 99, 16, [some (.inr (.inr 52)), some (.inr (.inr 13)), some (.inl (zk))], [.inl (zz), .inr (.inr 52)], [], []), []) := rfl
theorem mi_tab_aa13D_0 : ∀ e ∈ ([(99, (3, 0, sb_99))] : mi_T), sc_P e.1 = some e.2 := mi_tb mi_P99 (mi_tb_e)
set_option maxRecDepth 20000 in
theorem ms_aa13D_0 {h : sm_H} {d : Nat} {Q : Option mi_V → sm_H → Prop} {zk zz : Int} (hS : ab_Sh sx_sk h) (ok_zk : mi_in zk) (ok_zz : mi_in zz) (kon : ∀ h1, me_W [] h h1 → ∃ Q1, me_E (d + 5) 91 0 (mi_entry 3 [.inr (.inr 52), .inl (zz)]) [] h1 Q1 ∧ ∀ w h2, (∀ x, w = some x → mi_ok x) → Q1 w h2 → me_E (d + 6) 99 19 [some (.inr (.inr 52)), some (.inr (.inr 13)), some (.inl (zk))] (mi_back w []) h2 Q) : me_E (d + 6) 99 16 [some (.inr (.inr 52)), some (.inr (.inr 13)), some (.inl (zk))] [.inl (zz), .inr (.inr 52)] h Q := mf_seg (mp_aa13D_0 h d zk zz) (mi_tab_aa13D_0) hS (mi_okL_c (trivial) (mi_okL_c (trivial) (mi_okL_c (ok_zk) (mi_okL_e)))) (mi_okS_cons (ok_zz) (mi_okS_cons (trivial) (mi_okS_e))) (mi_al_e) (fun h1 W _ hst => let ⟨_, k1, k2⟩ := kon h1 W; mf_call (M := (3, 0, sb_99)) (M' := (3, 4, sb_91)) rfl rfl rfl rfl (Nat.le_of_ble_eq_true rfl) (Nat.le_of_ble_eq_true rfl) W.1 k1 k2)
set_option maxRecDepth 20000 in
theorem mt_aa13D {h : sm_H} {d : Nat} {Q : Option mi_V → sm_H → Prop} {zk zz : Int} (hS : ab_Sh sx_sk h) (ok_zk : mi_in zk) (ok_zz : mi_in zz) (k0 : (∀ h1, ab_Sh sx_sk h1 → ab_Fr [] h h1 → ∃ Q1, me_E (d + 5) 91 0 (mi_entry 3 [.inr (.inr 52), .inl (zz)]) [] h1 Q1 ∧ ∀ w h2, (∀ x, w = some x → mi_ok x) → Q1 w h2 → me_E (d + 6) 99 19 [some (.inr (.inr 52)), some (.inr (.inr 13)), some (.inl (zk))] (mi_back w []) h2 Q)) : me_E (d + 6) 99 16 [some (.inr (.inr 52)), some (.inr (.inr 13)), some (.inl (zk))] [.inl (zz), .inr (.inr 52)] h Q := ms_aa13D_0 hS ok_zk ok_zz (fun h1 W => (k0) h1 W.1 (W.2.2.2.2.2 _ rfl))
set_option maxRecDepth 20000 in
theorem mp_aa13E_0 (h : sm_H) (d : Nat) (zk zz : Int) : mj_path [(99, (3, 0, sb_99))] sx_sk h 3 [] (d + 6, 99, 19, [some (.inr (.inr 52)), some (.inr (.inr 13)), some (.inl (zk))], [.inl (zz)], [], []) = some ((d + 6, 99, 2, [some (.inr (.inr 52)), some (.inr (.inr 13)), some (.inl (zk + 1))], [], [], []), [-2147483648 ≤ zk + 1 ∧ zk + 1 ≤ 2147483647]) := rfl
theorem mi_tab_aa13E_0 : ∀ e ∈ ([(99, (3, 0, sb_99))] : mi_T), sc_P e.1 = some e.2 := mi_tb mi_P99 (mi_tb_e)
set_option maxRecDepth 20000 in
theorem ms_aa13E_0 {h : sm_H} {d : Nat} {Q : Option mi_V → sm_H → Prop} {zk zz : Int} (hS : ab_Sh sx_sk h) (ok_zk : mi_in zk) (ok_zz : mi_in zz) (ho : (-2147483648 ≤ zk + 1 ∧ zk + 1 ≤ 2147483647)) (kon : ∀ h1, me_W [] h h1 → me_E (d + 6) 99 2 [some (.inr (.inr 52)), some (.inr (.inr 13)), some (.inl (zk + 1))] [] h1 Q) : me_E (d + 6) 99 19 [some (.inr (.inr 52)), some (.inr (.inr 13)), some (.inl (zk))] [.inl (zz)] h Q := mf_seg (mp_aa13E_0 h d zk zz) (mi_tab_aa13E_0) hS (mi_okL_c (trivial) (mi_okL_c (trivial) (mi_okL_c (ok_zk) (mi_okL_e)))) (mi_okS_cons (ok_zz) (mi_okS_e)) (mi_al (ho) (mi_al_e)) (fun h1 W _ hst => kon h1 W)
set_option maxRecDepth 20000 in
theorem mt_aa13E {h : sm_H} {d : Nat} {Q : Option mi_V → sm_H → Prop} {zk zz : Int} (hS : ab_Sh sx_sk h) (ok_zk : mi_in zk) (ok_zz : mi_in zz) (k0 : ((-2147483648 ≤ zk + 1 ∧ zk + 1 ≤ 2147483647)) ∧ (∀ h1, ab_Sh sx_sk h1 → ab_Fr [] h h1 → me_E (d + 6) 99 2 [some (.inr (.inr 52)), some (.inr (.inr 13)), some (.inl (zk + 1))] [] h1 Q)) : me_E (d + 6) 99 19 [some (.inr (.inr 52)), some (.inr (.inr 13)), some (.inl (zk))] [.inl (zz)] h Q := ms_aa13E_0 hS ok_zk ok_zz ((k0).1) (fun h1 W => (k0).2 h1 W.1 (W.2.2.2.2.2 _ rfl))
/-! segments of the reference: texts -/
set_option maxRecDepth 20000 in
theorem mp_rtA_0 (h : sm_H) (d : Nat) (zt zc : Int) : mj_path [(171, (3, 4, sb_171))] sx_sk h 10 [1, 1] (d, 171, 0, [some (.inr (.inr 109)), some (.inl (zt)), some (.inl (zc))], [], [], []) = some ((d, 171, 44, [some (.inr (.inr 109)), some (.inl (zt)), some (.inl (zc))], [.inl ((0 : Int))], [.inl (13952, (1 : Int))], []), [zt < ((0 : Int)), ((0 : Int)) < ((1 : Int))]) := rfl
theorem mi_tab_rtA_0 : ∀ e ∈ ([(171, (3, 4, sb_171))] : mi_T), sc_P e.1 = some e.2 := mi_tb mi_P171 (mi_tb_e)
set_option maxRecDepth 20000 in
theorem ms_rtA_0 {h : sm_H} {d : Nat} {Q : Option mi_V → sm_H → Prop} {zt zc : Int} (hS : ab_Sh sx_sk h) (ok_zt : mi_in zt) (ok_zc : mi_in zc) (ho : (zt < ((0 : Int))) ∧ (((0 : Int)) < ((1 : Int))) ∧ (((0 : Int)) = 0 ∨ ((0 : Int)) = 1)) (kon : ∀ h1, me_W [.inl (13952, (1 : Int))] h h1 → Q (some (.inl ((0 : Int)))) h1) : me_E (d) 171 0 [some (.inr (.inr 109)), some (.inl (zt)), some (.inl (zc))] [] h Q := mf_seg (mp_rtA_0 h d zt zc) (mi_tab_rtA_0) hS (mi_okL_c (trivial) (mi_okL_c (ok_zt) (mi_okL_c (ok_zc) (mi_okL_e)))) (mi_okS_e) (mi_al (ho.1) (mi_al (ho.2.1) (mi_al_e))) (fun h1 W _ hst => mf_ret (M := (3, 4, sb_171)) rfl rfl rfl hst (mi_al (ho.2.2) mi_al_e) (kon h1 W))
set_option maxRecDepth 20000 in
theorem mp_rtA_1 (h : sm_H) (d : Nat) (zt zc : Int) : mj_path [(171, (3, 4, sb_171))] sx_sk h 14 [0, 1, 0, 1] (d, 171, 0, [some (.inr (.inr 109)), some (.inl (zt)), some (.inl (zc))], [], [], []) = some ((d, 171, 45, [some (.inr (.inr 109)), some (.inl (zt)), some (.inl (zc))], [], [.inl (13952, (0 : Int))], []), [((0 : Int)) ≤ zt, zt ≤ ((1 : Int)), ((0 : Int)) ≤ ((0 : Int)), zc = ((10 : Int))]) := rfl
theorem mi_tab_rtA_1 : ∀ e ∈ ([(171, (3, 4, sb_171))] : mi_T), sc_P e.1 = some e.2 := mi_tb mi_P171 (mi_tb_e)
set_option maxRecDepth 20000 in
theorem ms_rtA_1 {h : sm_H} {d : Nat} {Q : Option mi_V → sm_H → Prop} {zt zc : Int} (hS : ab_Sh sx_sk h) (ok_zt : mi_in zt) (ok_zc : mi_in zc) (ho : (((0 : Int)) ≤ zt) ∧ (zt ≤ ((1 : Int))) ∧ (((0 : Int)) ≤ ((0 : Int))) ∧ (zc = ((10 : Int)))) (kon : ∀ h1, me_W [.inl (13952, (0 : Int))] h h1 → me_E (d) 171 45 [some (.inr (.inr 109)), some (.inl (zt)), some (.inl (zc))] [] h1 Q) : me_E (d) 171 0 [some (.inr (.inr 109)), some (.inl (zt)), some (.inl (zc))] [] h Q := mf_seg (mp_rtA_1 h d zt zc) (mi_tab_rtA_1) hS (mi_okL_c (trivial) (mi_okL_c (ok_zt) (mi_okL_c (ok_zc) (mi_okL_e)))) (mi_okS_e) (mi_al (ho.1) (mi_al (ho.2.1) (mi_al (ho.2.2.1) (mi_al (ho.2.2.2) (mi_al_e))))) (fun h1 W _ hst => kon h1 W)
set_option maxRecDepth 20000 in
theorem mp_rtA_2 (h : sm_H) (d : Nat) (zt zc : Int) : mj_path [(171, (3, 4, sb_171))] sx_sk h 18 [0, 1, 0, 0, 1] (d, 171, 0, [some (.inr (.inr 109)), some (.inl (zt)), some (.inl (zc))], [], [], []) = some ((d, 171, 44, [some (.inr (.inr 109)), some (.inl (zt)), some (.inl (zc))], [.inl ((0 : Int))], [.inl (13952, (0 : Int))], []), [((0 : Int)) ≤ zt, zt ≤ ((1 : Int)), ((0 : Int)) ≤ ((0 : Int)), zc ≠ ((10 : Int)), zc < ((32 : Int))]) := rfl
theorem mi_tab_rtA_2 : ∀ e ∈ ([(171, (3, 4, sb_171))] : mi_T), sc_P e.1 = some e.2 := mi_tb mi_P171 (mi_tb_e)
set_option maxRecDepth 20000 in
theorem ms_rtA_2 {h : sm_H} {d : Nat} {Q : Option mi_V → sm_H → Prop} {zt zc : Int} (hS : ab_Sh sx_sk h) (ok_zt : mi_in zt) (ok_zc : mi_in zc) (ho : (((0 : Int)) ≤ zt) ∧ (zt ≤ ((1 : Int))) ∧ (((0 : Int)) ≤ ((0 : Int))) ∧ (zc ≠ ((10 : Int))) ∧ (zc < ((32 : Int))) ∧ (((0 : Int)) = 0 ∨ ((0 : Int)) = 1)) (kon : ∀ h1, me_W [.inl (13952, (0 : Int))] h h1 → Q (some (.inl ((0 : Int)))) h1) : me_E (d) 171 0 [some (.inr (.inr 109)), some (.inl (zt)), some (.inl (zc))] [] h Q := mf_seg (mp_rtA_2 h d zt zc) (mi_tab_rtA_2) hS (mi_okL_c (trivial) (mi_okL_c (ok_zt) (mi_okL_c (ok_zc) (mi_okL_e)))) (mi_okS_e) (mi_al (ho.1) (mi_al (ho.2.1) (mi_al (ho.2.2.1) (mi_al (ho.2.2.2.1) (mi_al (ho.2.2.2.2.1) (mi_al_e)))))) (fun h1 W _ hst => mf_ret (M := (3, 4, sb_171)) rfl rfl rfl hst (mi_al (ho.2.2.2.2.2) mi_al_e) (kon h1 W))
set_option maxRecDepth 20000 in
theorem mp_rtA_3 (h : sm_H) (d : Nat) (zt zc : Int) : mj_path [(171, (3, 4, sb_171))] sx_sk h 20 [0, 1, 0, 0, 0, 1] (d, 171, 0, [some (.inr (.inr 109)), some (.inl (zt)), some (.inl (zc))], [], [], []) = some ((d, 171, 45, [some (.inr (.inr 109)), some (.inl (zt)), some (.inl (zc))], [], [.inl (13952, (0 : Int))], []), [((0 : Int)) ≤ zt, zt ≤ ((1 : Int)), ((0 : Int)) ≤ ((0 : Int)), zc ≠ ((10 : Int)), ((32 : Int)) ≤ zc, zc ≤ ((126 : Int))]) := rfl
theorem mi_tab_rtA_3 : ∀ e ∈ ([(171, (3, 4, sb_171))] : mi_T), sc_P e.1 = some e.2 := mi_tb mi_P171 (mi_tb_e)
set_option maxRecDepth 20000 in
theorem ms_rtA_3 {h : sm_H} {d : Nat} {Q : Option mi_V → sm_H → Prop} {zt zc : Int} (hS : ab_Sh sx_sk h) (ok_zt : mi_in zt) (ok_zc : mi_in zc) (ho : (((0 : Int)) ≤ zt) ∧ (zt ≤ ((1 : Int))) ∧ (((0 : Int)) ≤ ((0 : Int))) ∧ (zc ≠ ((10 : Int))) ∧ (((32 : Int)) ≤ zc) ∧ (zc ≤ ((126 : Int)))) (kon : ∀ h1, me_W [.inl (13952, (0 : Int))] h h1 → me_E (d) 171 45 [some (.inr (.inr 109)), some (.inl (zt)), some (.inl (zc))] [] h1 Q) : me_E (d) 171 0 [some (.inr (.inr 109)), some (.inl (zt)), some (.inl (zc))] [] h Q := mf_seg (mp_rtA_3 h d zt zc) (mi_tab_rtA_3) hS (mi_okL_c (trivial) (mi_okL_c (ok_zt) (mi_okL_c (ok_zc) (mi_okL_e)))) (mi_okS_e) (mi_al (ho.1) (mi_al (ho.2.1) (mi_al (ho.2.2.1) (mi_al (ho.2.2.2.1) (mi_al (ho.2.2.2.2.1) (mi_al (ho.2.2.2.2.2) (mi_al_e))))))) (fun h1 W _ hst => kon h1 W)
set_option maxRecDepth 20000 in
theorem mp_rtA_4 (h : sm_H) (d : Nat) (zt zc : Int) : mj_path [(171, (3, 4, sb_171))] sx_sk h 21 [0, 1, 0, 0, 0, 0] (d, 171, 0, [some (.inr (.inr 109)), some (.inl (zt)), some (.inl (zc))], [], [], []) = some ((d, 171, 44, [some (.inr (.inr 109)), some (.inl (zt)), some (.inl (zc))], [.inl ((0 : Int))], [.inl (13952, (0 : Int))], []), [((0 : Int)) ≤ zt, zt ≤ ((1 : Int)), ((0 : Int)) ≤ ((0 : Int)), zc ≠ ((10 : Int)), ((32 : Int)) ≤ zc, ((126 : Int)) < zc]) := rfl
theorem mi_tab_rtA_4 : ∀ e ∈ ([(171, (3, 4, sb_171))] : mi_T), sc_P e.1 = some e.2 := mi_tb mi_P171 (mi_tb_e)
set_option maxRecDepth 20000 in
theorem ms_rtA_4 {h : sm_H} {d : Nat} {Q : Option mi_V → sm_H → Prop} {zt zc : Int} (hS : ab_Sh sx_sk h) (ok_zt : mi_in zt) (ok_zc : mi_in zc) (ho : (((0 : Int)) ≤ zt) ∧ (zt ≤ ((1 : Int))) ∧ (((0 : Int)) ≤ ((0 : Int))) ∧ (zc ≠ ((10 : Int))) ∧ (((32 : Int)) ≤ zc) ∧ (((126 : Int)) < zc) ∧ (((0 : Int)) = 0 ∨ ((0 : Int)) = 1)) (kon : ∀ h1, me_W [.inl (13952, (0 : Int))] h h1 → Q (some (.inl ((0 : Int)))) h1) : me_E (d) 171 0 [some (.inr (.inr 109)), some (.inl (zt)), some (.inl (zc))] [] h Q := mf_seg (mp_rtA_4 h d zt zc) (mi_tab_rtA_4) hS (mi_okL_c (trivial) (mi_okL_c (ok_zt) (mi_okL_c (ok_zc) (mi_okL_e)))) (mi_okS_e) (mi_al (ho.1) (mi_al (ho.2.1) (mi_al (ho.2.2.1) (mi_al (ho.2.2.2.1) (mi_al (ho.2.2.2.2.1) (mi_al (ho.2.2.2.2.2.1) (mi_al_e))))))) (fun h1 W _ hst => mf_ret (M := (3, 4, sb_171)) rfl rfl rfl hst (mi_al (ho.2.2.2.2.2.2) mi_al_e) (kon h1 W))
set_option maxRecDepth 20000 in
theorem mp_rtA_5 (h : sm_H) (d : Nat) (zt zc : Int) : mj_path [(171, (3, 4, sb_171))] sx_sk h 13 [0, 0, 1] (d, 171, 0, [some (.inr (.inr 109)), some (.inl (zt)), some (.inl (zc))], [], [], []) = some ((d, 171, 44, [some (.inr (.inr 109)), some (.inl (zt)), some (.inl (zc))], [.inl ((0 : Int))], [.inl (13952, (1 : Int))], []), [((0 : Int)) ≤ zt, ((1 : Int)) < zt, ((0 : Int)) < ((1 : Int))]) := rfl
theorem mi_tab_rtA_5 : ∀ e ∈ ([(171, (3, 4, sb_171))] : mi_T), sc_P e.1 = some e.2 := mi_tb mi_P171 (mi_tb_e)
set_option maxRecDepth 20000 in
theorem ms_rtA_5 {h : sm_H} {d : Nat} {Q : Option mi_V → sm_H → Prop} {zt zc : Int} (hS : ab_Sh sx_sk h) (ok_zt : mi_in zt) (ok_zc : mi_in zc) (ho : (((0 : Int)) ≤ zt) ∧ (((1 : Int)) < zt) ∧ (((0 : Int)) < ((1 : Int))) ∧ (((0 : Int)) = 0 ∨ ((0 : Int)) = 1)) (kon : ∀ h1, me_W [.inl (13952, (1 : Int))] h h1 → Q (some (.inl ((0 : Int)))) h1) : me_E (d) 171 0 [some (.inr (.inr 109)), some (.inl (zt)), some (.inl (zc))] [] h Q := mf_seg (mp_rtA_5 h d zt zc) (mi_tab_rtA_5) hS (mi_okL_c (trivial) (mi_okL_c (ok_zt) (mi_okL_c (ok_zc) (mi_okL_e)))) (mi_okS_e) (mi_al (ho.1) (mi_al (ho.2.1) (mi_al (ho.2.2.1) (mi_al_e)))) (fun h1 W _ hst => mf_ret (M := (3, 4, sb_171)) rfl rfl rfl hst (mi_al (ho.2.2.2) mi_al_e) (kon h1 W))
set_option maxRecDepth 20000 in
theorem mt_rtA {h : sm_H} {d : Nat} {Q : Option mi_V → sm_H → Prop} {zt zc : Int} (hS : ab_Sh sx_sk h) (ok_zt : mi_in zt) (ok_zc : mi_in zc) (k0 : (zt < ((0 : Int))) → (∀ h1, ab_Sh sx_sk h1 → mi_f h1 13952 = (1 : Int) → ab_Fr [(13952, 13953)] h h1 → Q (some (.inl ((0 : Int)))) h1)) (k1 : (((0 : Int)) ≤ zt) → (zt ≤ ((1 : Int))) → (zc = ((10 : Int))) → (∀ h1, ab_Sh sx_sk h1 → mi_f h1 13952 = (0 : Int) → ab_Fr [(13952, 13953)] h h1 → me_E (d) 171 45 [some (.inr (.inr 109)), some (.inl (zt)), some (.inl (zc))] [] h1 Q)) (k2 : (((0 : Int)) ≤ zt) → (zt ≤ ((1 : Int))) → (zc ≠ ((10 : Int))) → (zc < ((32 : Int))) → (∀ h1, ab_Sh sx_sk h1 → mi_f h1 13952 = (0 : Int) → ab_Fr [(13952, 13953)] h h1 → Q (some (.inl ((0 : Int)))) h1)) (k3 : (((0 : Int)) ≤ zt) → (zt ≤ ((1 : Int))) → (zc ≠ ((10 : Int))) → (((32 : Int)) ≤ zc) → (zc ≤ ((126 : Int))) → (∀ h1, ab_Sh sx_sk h1 → mi_f h1 13952 = (0 : Int) → ab_Fr [(13952, 13953)] h h1 → me_E (d) 171 45 [some (.inr (.inr 109)), some (.inl (zt)), some (.inl (zc))] [] h1 Q)) (k4 : (((0 : Int)) ≤ zt) → (zt ≤ ((1 : Int))) → (zc ≠ ((10 : Int))) → (((32 : Int)) ≤ zc) → (((126 : Int)) < zc) → (∀ h1, ab_Sh sx_sk h1 → mi_f h1 13952 = (0 : Int) → ab_Fr [(13952, 13953)] h h1 → Q (some (.inl ((0 : Int)))) h1)) (k5 : (((0 : Int)) ≤ zt) → (((1 : Int)) < zt) → (∀ h1, ab_Sh sx_sk h1 → mi_f h1 13952 = (1 : Int) → ab_Fr [(13952, 13953)] h h1 → Q (some (.inl ((0 : Int)))) h1)) : me_E (d) 171 0 [some (.inr (.inr 109)), some (.inl (zt)), some (.inl (zc))] [] h Q := Or.elim (mi_em .lt (zt) (((0 : Int)))) (fun c0 => ms_rtA_0 hS ok_zt ok_zc ⟨c0, (by decide), (by decide)⟩ (fun h1 W => (k0 c0) h1 W.1 (W.2.1 13952) (W.2.2.2.2.2 _ rfl))) (fun c0 => Or.elim (mi_em .le (zt) (((1 : Int)))) (fun c1 => Or.elim (mi_em .eq (zc) (((10 : Int)))) (fun c2 => ms_rtA_1 hS ok_zt ok_zc ⟨c0, c1, (by decide), c2⟩ (fun h1 W => (k1 c0 c1 c2) h1 W.1 (W.2.1 13952) (W.2.2.2.2.2 _ rfl))) (fun c2 => Or.elim (mi_em .lt (zc) (((32 : Int)))) (fun c3 => ms_rtA_2 hS ok_zt ok_zc ⟨c0, c1, (by decide), c2, c3, (by decide)⟩ (fun h1 W => (k2 c0 c1 c2 c3) h1 W.1 (W.2.1 13952) (W.2.2.2.2.2 _ rfl))) (fun c3 => Or.elim (mi_em .le (zc) (((126 : Int)))) (fun c4 => ms_rtA_3 hS ok_zt ok_zc ⟨c0, c1, (by decide), c2, c3, c4⟩ (fun h1 W => (k3 c0 c1 c2 c3 c4) h1 W.1 (W.2.1 13952) (W.2.2.2.2.2 _ rfl))) (fun c4 => ms_rtA_4 hS ok_zt ok_zc ⟨c0, c1, (by decide), c2, c3, c4, (by decide)⟩ (fun h1 W => (k4 c0 c1 c2 c3 c4) h1 W.1 (W.2.1 13952) (W.2.2.2.2.2 _ rfl)))))) (fun c1 => ms_rtA_5 hS ok_zt ok_zc ⟨c0, c1, (by decide), (by decide)⟩ (fun h1 W => (k5 c0 c1) h1 W.1 (W.2.1 13952) (W.2.2.2.2.2 _ rfl))))
set_option maxRecDepth 20000 in
theorem mp_rtB_0 (h : sm_H) (d : Nat) (zt zc : Int) : mj_path [(171, (3, 4, sb_171))] sx_sk h 20 [1, 1, 1, 8] (d, 171, 45, [some (.inr (.inr 109)), some (.inl (zt)), some (.inl (zc))], [], [], []) = some ((d, 171, 116, [some (.inr (.inr 109)), some (.inl (zt)), some (.inl (zc))], [.inl ((1 : Int))], [.inr (.inr (.inl (111, Int.toNat (mi_f h 13954), zc))), .inl (13954, (mi_f h 13954) + ((1 : Int)))], []), [zt ≠ ((0 : Int)), (mi_f h 13954) ≠ ((160 : Int)), zt ≠ ((0 : Int)), -2147483648 ≤ (mi_f h 13954) + ((1 : Int)) ∧ (mi_f h 13954) + ((1 : Int)) ≤ 2147483647, 0 ≤ ((mi_f h 13954) + ((1 : Int))) ∧ ((mi_f h 13954) + ((1 : Int))) ≤ 160, 0 ≤ (mi_f h 13954) ∧ (mi_f h 13954) < 160]) := rfl
theorem mi_tab_rtB_0 : ∀ e ∈ ([(171, (3, 4, sb_171))] : mi_T), sc_P e.1 = some e.2 := mi_tb mi_P171 (mi_tb_e)
set_option maxRecDepth 20000 in
theorem ms_rtB_0 {h : sm_H} {d : Nat} {Q : Option mi_V → sm_H → Prop} {zt zc : Int} (hS : ab_Sh sx_sk h) (ok_zt : mi_in zt) (ok_zc : mi_in zc) (ho : (zt ≠ ((0 : Int))) ∧ ((mi_f h 13954) ≠ ((160 : Int))) ∧ (zt ≠ ((0 : Int))) ∧ (-2147483648 ≤ (mi_f h 13954) + ((1 : Int)) ∧ (mi_f h 13954) + ((1 : Int)) ≤ 2147483647) ∧ (0 ≤ ((mi_f h 13954) + ((1 : Int))) ∧ ((mi_f h 13954) + ((1 : Int))) ≤ 160) ∧ (0 ≤ (mi_f h 13954) ∧ (mi_f h 13954) < 160) ∧ (((1 : Int)) = 0 ∨ ((1 : Int)) = 1)) (kon : ∀ h1, me_W [.inr (.inr (.inl (111, Int.toNat (mi_f h 13954), zc))), .inl (13954, (mi_f h 13954) + ((1 : Int)))] h h1 → Q (some (.inl ((1 : Int)))) h1) : me_E (d) 171 45 [some (.inr (.inr 109)), some (.inl (zt)), some (.inl (zc))] [] h Q := mf_seg (mp_rtB_0 h d zt zc) (mi_tab_rtB_0) hS (mi_okL_c (trivial) (mi_okL_c (ok_zt) (mi_okL_c (ok_zc) (mi_okL_e)))) (mi_okS_e) (mi_al (ho.1) (mi_al (ho.2.1) (mi_al (ho.2.2.1) (mi_al (ho.2.2.2.1) (mi_al (ho.2.2.2.2.1) (mi_al (ho.2.2.2.2.2.1) (mi_al_e))))))) (fun h1 W _ hst => mf_ret (M := (3, 4, sb_171)) rfl rfl rfl hst (mi_al (ho.2.2.2.2.2.2) mi_al_e) (kon h1 W))
set_option maxRecDepth 20000 in
theorem mp_rtB_1 (h : sm_H) (d : Nat) (zt zc : Int) : mj_path [(171, (3, 4, sb_171))] sx_sk h 7 [1, 0] (d, 171, 45, [some (.inr (.inr 109)), some (.inl (zt)), some (.inl (zc))], [], [], []) = some ((d, 171, 73, [some (.inr (.inr 109)), some (.inl (zt)), some (.inl (zc))], [.inl ((0 : Int))], [], []), [zt ≠ ((0 : Int)), (mi_f h 13954) = ((160 : Int))]) := rfl
theorem mi_tab_rtB_1 : ∀ e ∈ ([(171, (3, 4, sb_171))] : mi_T), sc_P e.1 = some e.2 := mi_tb mi_P171 (mi_tb_e)
set_option maxRecDepth 20000 in
theorem ms_rtB_1 {h : sm_H} {d : Nat} {Q : Option mi_V → sm_H → Prop} {zt zc : Int} (hS : ab_Sh sx_sk h) (ok_zt : mi_in zt) (ok_zc : mi_in zc) (ho : (zt ≠ ((0 : Int))) ∧ ((mi_f h 13954) = ((160 : Int))) ∧ (((0 : Int)) = 0 ∨ ((0 : Int)) = 1)) (kon : ∀ h1, me_W [] h h1 → Q (some (.inl ((0 : Int)))) h1) : me_E (d) 171 45 [some (.inr (.inr 109)), some (.inl (zt)), some (.inl (zc))] [] h Q := mf_seg (mp_rtB_1 h d zt zc) (mi_tab_rtB_1) hS (mi_okL_c (trivial) (mi_okL_c (ok_zt) (mi_okL_c (ok_zc) (mi_okL_e)))) (mi_okS_e) (mi_al (ho.1) (mi_al (ho.2.1) (mi_al_e))) (fun h1 W _ hst => mf_ret (M := (3, 4, sb_171)) rfl rfl rfl hst (mi_al (ho.2.2) mi_al_e) (kon h1 W))
set_option maxRecDepth 20000 in
theorem mp_rtB_2 (h : sm_H) (d : Nat) (zt zc : Int) : mj_path [(171, (3, 4, sb_171))] sx_sk h 21 [0, 1, 0, 8] (d, 171, 45, [some (.inr (.inr 109)), some (.inl (zt)), some (.inl (zc))], [], [], []) = some ((d, 171, 116, [some (.inr (.inr 109)), some (.inl (zt)), some (.inl (zc))], [.inl ((1 : Int))], [.inr (.inr (.inl (110, Int.toNat (mi_f h 13953), zc))), .inl (13953, (mi_f h 13953) + ((1 : Int)))], []), [zt = ((0 : Int)), (mi_f h 13953) ≠ ((240 : Int)), zt = ((0 : Int)), -2147483648 ≤ (mi_f h 13953) + ((1 : Int)) ∧ (mi_f h 13953) + ((1 : Int)) ≤ 2147483647, 0 ≤ ((mi_f h 13953) + ((1 : Int))) ∧ ((mi_f h 13953) + ((1 : Int))) ≤ 240, 0 ≤ (mi_f h 13953) ∧ (mi_f h 13953) < 240, 0 ≤ zc ∧ zc ≤ 255]) := rfl
theorem mi_tab_rtB_2 : ∀ e ∈ ([(171, (3, 4, sb_171))] : mi_T), sc_P e.1 = some e.2 := mi_tb mi_P171 (mi_tb_e)
set_option maxRecDepth 20000 in
theorem ms_rtB_2 {h : sm_H} {d : Nat} {Q : Option mi_V → sm_H → Prop} {zt zc : Int} (hS : ab_Sh sx_sk h) (ok_zt : mi_in zt) (ok_zc : mi_in zc) (ho : (zt = ((0 : Int))) ∧ ((mi_f h 13953) ≠ ((240 : Int))) ∧ (zt = ((0 : Int))) ∧ (-2147483648 ≤ (mi_f h 13953) + ((1 : Int)) ∧ (mi_f h 13953) + ((1 : Int)) ≤ 2147483647) ∧ (0 ≤ ((mi_f h 13953) + ((1 : Int))) ∧ ((mi_f h 13953) + ((1 : Int))) ≤ 240) ∧ (0 ≤ (mi_f h 13953) ∧ (mi_f h 13953) < 240) ∧ (0 ≤ zc ∧ zc ≤ 255) ∧ (((1 : Int)) = 0 ∨ ((1 : Int)) = 1)) (kon : ∀ h1, me_W [.inr (.inr (.inl (110, Int.toNat (mi_f h 13953), zc))), .inl (13953, (mi_f h 13953) + ((1 : Int)))] h h1 → Q (some (.inl ((1 : Int)))) h1) : me_E (d) 171 45 [some (.inr (.inr 109)), some (.inl (zt)), some (.inl (zc))] [] h Q := mf_seg (mp_rtB_2 h d zt zc) (mi_tab_rtB_2) hS (mi_okL_c (trivial) (mi_okL_c (ok_zt) (mi_okL_c (ok_zc) (mi_okL_e)))) (mi_okS_e) (mi_al (ho.1) (mi_al (ho.2.1) (mi_al (ho.2.2.1) (mi_al (ho.2.2.2.1) (mi_al (ho.2.2.2.2.1) (mi_al (ho.2.2.2.2.2.1) (mi_al (ho.2.2.2.2.2.2.1) (mi_al_e)))))))) (fun h1 W _ hst => mf_ret (M := (3, 4, sb_171)) rfl rfl rfl hst (mi_al (ho.2.2.2.2.2.2.2) mi_al_e) (kon h1 W))
set_option maxRecDepth 20000 in
theorem mp_rtB_3 (h : sm_H) (d : Nat) (zt zc : Int) : mj_path [(171, (3, 4, sb_171))] sx_sk h 8 [0, 0] (d, 171, 45, [some (.inr (.inr 109)), some (.inl (zt)), some (.inl (zc))], [], [], []) = some ((d, 171, 73, [some (.inr (.inr 109)), some (.inl (zt)), some (.inl (zc))], [.inl ((0 : Int))], [], []), [zt = ((0 : Int)), (mi_f h 13953) = ((240 : Int))]) := rfl
theorem mi_tab_rtB_3 : ∀ e ∈ ([(171, (3, 4, sb_171))] : mi_T), sc_P e.1 = some e.2 := mi_tb mi_P171 (mi_tb_e)
set_option maxRecDepth 20000 in
theorem ms_rtB_3 {h : sm_H} {d : Nat} {Q : Option mi_V → sm_H → Prop} {zt zc : Int} (hS : ab_Sh sx_sk h) (ok_zt : mi_in zt) (ok_zc : mi_in zc) (ho : (zt = ((0 : Int))) ∧ ((mi_f h 13953) = ((240 : Int))) ∧ (((0 : Int)) = 0 ∨ ((0 : Int)) = 1)) (kon : ∀ h1, me_W [] h h1 → Q (some (.inl ((0 : Int)))) h1) : me_E (d) 171 45 [some (.inr (.inr 109)), some (.inl (zt)), some (.inl (zc))] [] h Q := mf_seg (mp_rtB_3 h d zt zc) (mi_tab_rtB_3) hS (mi_okL_c (trivial) (mi_okL_c (ok_zt) (mi_okL_c (ok_zc) (mi_okL_e)))) (mi_okS_e) (mi_al (ho.1) (mi_al (ho.2.1) (mi_al_e))) (fun h1 W _ hst => mf_ret (M := (3, 4, sb_171)) rfl rfl rfl hst (mi_al (ho.2.2) mi_al_e) (kon h1 W))
set_option maxRecDepth 20000 in
theorem mt_rtB {h : sm_H} {d : Nat} {Q : Option mi_V → sm_H → Prop} {zt zc : Int} (hS : ab_Sh sx_sk h) (ok_zt : mi_in zt) (ok_zc : mi_in zc) (k0 : (0 ≤ mi_f h 13954 ∧ mi_f h 13954 ≤ 160) → (zt ≠ ((0 : Int))) → ((mi_f h 13954) ≠ ((160 : Int))) → ((-2147483648 ≤ (mi_f h 13954) + ((1 : Int)) ∧ (mi_f h 13954) + ((1 : Int)) ≤ 2147483647) ∧ (0 ≤ ((mi_f h 13954) + ((1 : Int))) ∧ ((mi_f h 13954) + ((1 : Int))) ≤ 160) ∧ (0 ≤ (mi_f h 13954) ∧ (mi_f h 13954) < 160)) ∧ (∀ h1, ab_Sh sx_sk h1 → mi_f h1 13954 = (mi_f h 13954) + ((1 : Int)) → (∀ i, mi_a h1 111 i = if i = Int.toNat (mi_f h 13954) then zc else (mi_a h 111 i)) → ab_Fr [(13954, 13955), (14208, 14209)] h h1 → Q (some (.inl ((1 : Int)))) h1)) (k1 : (0 ≤ mi_f h 13954 ∧ mi_f h 13954 ≤ 160) → (zt ≠ ((0 : Int))) → ((mi_f h 13954) = ((160 : Int))) → (∀ h1, ab_Sh sx_sk h1 → ab_Fr [] h h1 → Q (some (.inl ((0 : Int)))) h1)) (k2 : (0 ≤ mi_f h 13953 ∧ mi_f h 13953 ≤ 240) → (zt = ((0 : Int))) → ((mi_f h 13953) ≠ ((240 : Int))) → ((-2147483648 ≤ (mi_f h 13953) + ((1 : Int)) ∧ (mi_f h 13953) + ((1 : Int)) ≤ 2147483647) ∧ (0 ≤ ((mi_f h 13953) + ((1 : Int))) ∧ ((mi_f h 13953) + ((1 : Int))) ≤ 240) ∧ (0 ≤ (mi_f h 13953) ∧ (mi_f h 13953) < 240) ∧ (0 ≤ zc ∧ zc ≤ 255)) ∧ (∀ h1, ab_Sh sx_sk h1 → mi_f h1 13953 = (mi_f h 13953) + ((1 : Int)) → (∀ i, mi_a h1 110 i = if i = Int.toNat (mi_f h 13953) then zc else (mi_a h 110 i)) → ab_Fr [(13953, 13954), (14080, 14081)] h h1 → Q (some (.inl ((1 : Int)))) h1)) (k3 : (0 ≤ mi_f h 13953 ∧ mi_f h 13953 ≤ 240) → (zt = ((0 : Int))) → ((mi_f h 13953) = ((240 : Int))) → (∀ h1, ab_Sh sx_sk h1 → ab_Fr [] h h1 → Q (some (.inl ((0 : Int)))) h1)) : me_E (d) 171 45 [some (.inr (.inr 109)), some (.inl (zt)), some (.inl (zc))] [] h Q := Or.elim (mi_em .ne (zt) (((0 : Int)))) (fun c0 => Or.elim (mi_em .ne ((mi_f h 13954)) (((160 : Int)))) (fun c1 => ms_rtB_0 hS ok_zt ok_zc ⟨c0, c1, c0, (k0 (me_fb hS rfl) c0 c1).1.1, (k0 (me_fb hS rfl) c0 c1).1.2.1, (k0 (me_fb hS rfl) c0 c1).1.2.2, (by decide)⟩ (fun h1 W => (k0 (me_fb hS rfl) c0 c1).2 h1 W.1 (W.2.1 13954) (fun i => W.2.2.1 111 i) (W.2.2.2.2.2 _ rfl))) (fun c1 => ms_rtB_1 hS ok_zt ok_zc ⟨c0, c1, (by decide)⟩ (fun h1 W => (k1 (me_fb hS rfl) c0 c1) h1 W.1 (W.2.2.2.2.2 _ rfl)))) (fun c0 => Or.elim (mi_em .ne ((mi_f h 13953)) (((240 : Int)))) (fun c1 => ms_rtB_2 hS ok_zt ok_zc ⟨c0, c1, c0, (k2 (me_fb hS rfl) c0 c1).1.1, (k2 (me_fb hS rfl) c0 c1).1.2.1, (k2 (me_fb hS rfl) c0 c1).1.2.2.1, (k2 (me_fb hS rfl) c0 c1).1.2.2.2, (by decide)⟩ (fun h1 W => (k2 (me_fb hS rfl) c0 c1).2 h1 W.1 (W.2.1 13953) (fun i => W.2.2.1 110 i) (W.2.2.2.2.2 _ rfl))) (fun c1 => ms_rtB_3 hS ok_zt ok_zc ⟨c0, c1, (by decide)⟩ (fun h1 W => (k3 (me_fb hS rfl) c0 c1) h1 W.1 (W.2.2.2.2.2 _ rfl))))
set_option maxRecDepth 20000 in
theorem mp_rcA_0 (h : sm_H) (d : Nat) (zt : Int) : mj_path [(172, (3, 1, sb_172))] sx_sk h 10 [1, 0] (d, 172, 0, [some (.inr (.inr 109)), some (.inl (zt)), none], [], [], []) = some ((d, 172, 26, [some (.inr (.inr 109)), some (.inl (zt)), none], [.inl ((0 : Int))], [.inl (13952, (1 : Int))], []), [zt < ((0 : Int)), ((0 : Int)) < ((1 : Int))]) := rfl
theorem mi_tab_rcA_0 : ∀ e ∈ ([(172, (3, 1, sb_172))] : mi_T), sc_P e.1 = some e.2 := mi_tb mi_P172 (mi_tb_e)
set_option maxRecDepth 20000 in
theorem ms_rcA_0 {h : sm_H} {d : Nat} {Q : Option mi_V → sm_H → Prop} {zt : Int} (hS : ab_Sh sx_sk h) (ok_zt : mi_in zt) (ho : (zt < ((0 : Int))) ∧ (((0 : Int)) < ((1 : Int)))) (kon : ∀ h1, me_W [.inl (13952, (1 : Int))] h h1 → Q (some (.inl ((0 : Int)))) h1) : me_E (d) 172 0 [some (.inr (.inr 109)), some (.inl (zt)), none] [] h Q := mf_seg (mp_rcA_0 h d zt) (mi_tab_rcA_0) hS (mi_okL_c (trivial) (mi_okL_c (ok_zt) (mi_okL_n (mi_okL_e)))) (mi_okS_e) (mi_al (ho.1) (mi_al (ho.2) (mi_al_e))) (fun h1 W _ hst => mf_ret (M := (3, 1, sb_172)) rfl rfl rfl hst (mi_al_e) (kon h1 W))
set_option maxRecDepth 20000 in
theorem mp_rcA_1 (h : sm_H) (d : Nat) (zt : Int) : mj_path [(172, (3, 1, sb_172))] sx_sk h 30 [0, 1, 1, 1, 1, 1] (d, 172, 0, [some (.inr (.inr 109)), some (.inl (zt)), none], [], [], []) = some ((d, 172, 77, [some (.inr (.inr 109)), some (.inl (zt)), some (.inl (mi_f h 13954))], [.inl (mi_f h 13954)], [.inl (13954, mi_f h 13954), .inl (13953, mi_f h 13953), .inl (13952, (0 : Int))], []), [((0 : Int)) ≤ zt, zt ≤ ((1 : Int)), ((0 : Int)) ≤ ((0 : Int)), zt ≠ ((0 : Int)), zt ≠ ((0 : Int)), 0 ≤ (mi_f h 13953) ∧ (mi_f h 13953) ≤ 240, zt ≠ ((1 : Int)), 0 ≤ (mi_f h 13954) ∧ (mi_f h 13954) ≤ 160]) := rfl
theorem mi_tab_rcA_1 : ∀ e ∈ ([(172, (3, 1, sb_172))] : mi_T), sc_P e.1 = some e.2 := mi_tb mi_P172 (mi_tb_e)
set_option maxRecDepth 20000 in
theorem ms_rcA_1 {h : sm_H} {d : Nat} {Q : Option mi_V → sm_H → Prop} {zt : Int} (hS : ab_Sh sx_sk h) (ok_zt : mi_in zt) (ho : (((0 : Int)) ≤ zt) ∧ (zt ≤ ((1 : Int))) ∧ (((0 : Int)) ≤ ((0 : Int))) ∧ (zt ≠ ((0 : Int))) ∧ (zt ≠ ((0 : Int))) ∧ (0 ≤ (mi_f h 13953) ∧ (mi_f h 13953) ≤ 240) ∧ (zt ≠ ((1 : Int))) ∧ (0 ≤ (mi_f h 13954) ∧ (mi_f h 13954) ≤ 160)) (kon : ∀ h1, me_W [.inl (13954, mi_f h 13954), .inl (13953, mi_f h 13953), .inl (13952, (0 : Int))] h h1 → Q (some (.inl (mi_f h 13954))) h1) : me_E (d) 172 0 [some (.inr (.inr 109)), some (.inl (zt)), none] [] h Q := mf_seg (mp_rcA_1 h d zt) (mi_tab_rcA_1) hS (mi_okL_c (trivial) (mi_okL_c (ok_zt) (mi_okL_n (mi_okL_e)))) (mi_okS_e) (mi_al (ho.1) (mi_al (ho.2.1) (mi_al (ho.2.2.1) (mi_al (ho.2.2.2.1) (mi_al (ho.2.2.2.2.1) (mi_al (ho.2.2.2.2.2.1) (mi_al (ho.2.2.2.2.2.2.1) (mi_al (ho.2.2.2.2.2.2.2) (mi_al_e))))))))) (fun h1 W _ hst => mf_ret (M := (3, 1, sb_172)) rfl rfl rfl hst (mi_al_e) (kon h1 W))
set_option maxRecDepth 20000 in
theorem mp_rcA_2 (h : sm_H) (d : Nat) (zt : Int) : mj_path [(172, (3, 1, sb_172))] sx_sk h 30 [0, 1, 1, 1, 1, 0] (d, 172, 0, [some (.inr (.inr 109)), some (.inl (zt)), none], [], [], []) = some ((d, 172, 77, [some (.inr (.inr 109)), some (.inl (zt)), some (.inl (mi_f h 13954))], [.inl (mi_f h 13954)], [.inl (13954, (0 : Int)), .inl (13953, mi_f h 13953), .inl (13952, (0 : Int))], []), [((0 : Int)) ≤ zt, zt ≤ ((1 : Int)), ((0 : Int)) ≤ ((0 : Int)), zt ≠ ((0 : Int)), zt ≠ ((0 : Int)), 0 ≤ (mi_f h 13953) ∧ (mi_f h 13953) ≤ 240, zt = ((1 : Int)), 0 ≤ ((0 : Int)) ∧ ((0 : Int)) ≤ 160]) := rfl
theorem mi_tab_rcA_2 : ∀ e ∈ ([(172, (3, 1, sb_172))] : mi_T), sc_P e.1 = some e.2 := mi_tb mi_P172 (mi_tb_e)
set_option maxRecDepth 20000 in
theorem ms_rcA_2 {h : sm_H} {d : Nat} {Q : Option mi_V → sm_H → Prop} {zt : Int} (hS : ab_Sh sx_sk h) (ok_zt : mi_in zt) (ho : (((0 : Int)) ≤ zt) ∧ (zt ≤ ((1 : Int))) ∧ (((0 : Int)) ≤ ((0 : Int))) ∧ (zt ≠ ((0 : Int))) ∧ (zt ≠ ((0 : Int))) ∧ (0 ≤ (mi_f h 13953) ∧ (mi_f h 13953) ≤ 240) ∧ (zt = ((1 : Int))) ∧ (0 ≤ ((0 : Int)) ∧ ((0 : Int)) ≤ 160)) (kon : ∀ h1, me_W [.inl (13954, (0 : Int)), .inl (13953, mi_f h 13953), .inl (13952, (0 : Int))] h h1 → Q (some (.inl (mi_f h 13954))) h1) : me_E (d) 172 0 [some (.inr (.inr 109)), some (.inl (zt)), none] [] h Q := mf_seg (mp_rcA_2 h d zt) (mi_tab_rcA_2) hS (mi_okL_c (trivial) (mi_okL_c (ok_zt) (mi_okL_n (mi_okL_e)))) (mi_okS_e) (mi_al (ho.1) (mi_al (ho.2.1) (mi_al (ho.2.2.1) (mi_al (ho.2.2.2.1) (mi_al (ho.2.2.2.2.1) (mi_al (ho.2.2.2.2.2.1) (mi_al (ho.2.2.2.2.2.2.1) (mi_al (ho.2.2.2.2.2.2.2) (mi_al_e))))))))) (fun h1 W _ hst => mf_ret (M := (3, 1, sb_172)) rfl rfl rfl hst (mi_al_e) (kon h1 W))
set_option maxRecDepth 20000 in
theorem mp_rcA_3 (h : sm_H) (d : Nat) (zt : Int) : mj_path [(172, (3, 1, sb_172))] sx_sk h 31 [0, 1, 1, 0, 0, 1] (d, 172, 0, [some (.inr (.inr 109)), some (.inl (zt)), none], [], [], []) = some ((d, 172, 77, [some (.inr (.inr 109)), some (.inl (zt)), some (.inl (mi_f h 13953))], [.inl (mi_f h 13953)], [.inl (13954, mi_f h 13954), .inl (13953, (0 : Int)), .inl (13952, (0 : Int))], []), [((0 : Int)) ≤ zt, zt ≤ ((1 : Int)), ((0 : Int)) ≤ ((0 : Int)), zt = ((0 : Int)), zt = ((0 : Int)), 0 ≤ ((0 : Int)) ∧ ((0 : Int)) ≤ 240, zt ≠ ((1 : Int)), 0 ≤ (mi_f h 13954) ∧ (mi_f h 13954) ≤ 160]) := rfl
theorem mi_tab_rcA_3 : ∀ e ∈ ([(172, (3, 1, sb_172))] : mi_T), sc_P e.1 = some e.2 := mi_tb mi_P172 (mi_tb_e)
set_option maxRecDepth 20000 in
theorem ms_rcA_3 {h : sm_H} {d : Nat} {Q : Option mi_V → sm_H → Prop} {zt : Int} (hS : ab_Sh sx_sk h) (ok_zt : mi_in zt) (ho : (((0 : Int)) ≤ zt) ∧ (zt ≤ ((1 : Int))) ∧ (((0 : Int)) ≤ ((0 : Int))) ∧ (zt = ((0 : Int))) ∧ (zt = ((0 : Int))) ∧ (0 ≤ ((0 : Int)) ∧ ((0 : Int)) ≤ 240) ∧ (zt ≠ ((1 : Int))) ∧ (0 ≤ (mi_f h 13954) ∧ (mi_f h 13954) ≤ 160)) (kon : ∀ h1, me_W [.inl (13954, mi_f h 13954), .inl (13953, (0 : Int)), .inl (13952, (0 : Int))] h h1 → Q (some (.inl (mi_f h 13953))) h1) : me_E (d) 172 0 [some (.inr (.inr 109)), some (.inl (zt)), none] [] h Q := mf_seg (mp_rcA_3 h d zt) (mi_tab_rcA_3) hS (mi_okL_c (trivial) (mi_okL_c (ok_zt) (mi_okL_n (mi_okL_e)))) (mi_okS_e) (mi_al (ho.1) (mi_al (ho.2.1) (mi_al (ho.2.2.1) (mi_al (ho.2.2.2.1) (mi_al (ho.2.2.2.2.1) (mi_al (ho.2.2.2.2.2.1) (mi_al (ho.2.2.2.2.2.2.1) (mi_al (ho.2.2.2.2.2.2.2) (mi_al_e))))))))) (fun h1 W _ hst => mf_ret (M := (3, 1, sb_172)) rfl rfl rfl hst (mi_al_e) (kon h1 W))
set_option maxRecDepth 20000 in
theorem mp_rcA_4 (h : sm_H) (d : Nat) (zt : Int) : mj_path [(172, (3, 1, sb_172))] sx_sk h 31 [0, 1, 1, 0, 0, 0] (d, 172, 0, [some (.inr (.inr 109)), some (.inl (zt)), none], [], [], []) = some ((d, 172, 77, [some (.inr (.inr 109)), some (.inl (zt)), some (.inl (mi_f h 13953))], [.inl (mi_f h 13953)], [.inl (13954, (0 : Int)), .inl (13953, (0 : Int)), .inl (13952, (0 : Int))], []), [((0 : Int)) ≤ zt, zt ≤ ((1 : Int)), ((0 : Int)) ≤ ((0 : Int)), zt = ((0 : Int)), zt = ((0 : Int)), 0 ≤ ((0 : Int)) ∧ ((0 : Int)) ≤ 240, zt = ((1 : Int)), 0 ≤ ((0 : Int)) ∧ ((0 : Int)) ≤ 160]) := rfl
theorem mi_tab_rcA_4 : ∀ e ∈ ([(172, (3, 1, sb_172))] : mi_T), sc_P e.1 = some e.2 := mi_tb mi_P172 (mi_tb_e)
set_option maxRecDepth 20000 in
theorem ms_rcA_4 {h : sm_H} {d : Nat} {Q : Option mi_V → sm_H → Prop} {zt : Int} (hS : ab_Sh sx_sk h) (ok_zt : mi_in zt) (ho : (((0 : Int)) ≤ zt) ∧ (zt ≤ ((1 : Int))) ∧ (((0 : Int)) ≤ ((0 : Int))) ∧ (zt = ((0 : Int))) ∧ (zt = ((0 : Int))) ∧ (0 ≤ ((0 : Int)) ∧ ((0 : Int)) ≤ 240) ∧ (zt = ((1 : Int))) ∧ (0 ≤ ((0 : Int)) ∧ ((0 : Int)) ≤ 160)) (kon : ∀ h1, me_W [.inl (13954, (0 : Int)), .inl (13953, (0 : Int)), .inl (13952, (0 : Int))] h h1 → Q (some (.inl (mi_f h 13953))) h1) : me_E (d) 172 0 [some (.inr (.inr 109)), some (.inl (zt)), none] [] h Q := mf_seg (mp_rcA_4 h d zt) (mi_tab_rcA_4) hS (mi_okL_c (trivial) (mi_okL_c (ok_zt) (mi_okL_n (mi_okL_e)))) (mi_okS_e) (mi_al (ho.1) (mi_al (ho.2.1) (mi_al (ho.2.2.1) (mi_al (ho.2.2.2.1) (mi_al (ho.2.2.2.2.1) (mi_al (ho.2.2.2.2.2.1) (mi_al (ho.2.2.2.2.2.2.1) (mi_al (ho.2.2.2.2.2.2.2) (mi_al_e))))))))) (fun h1 W _ hst => mf_ret (M := (3, 1, sb_172)) rfl rfl rfl hst (mi_al_e) (kon h1 W))
set_option maxRecDepth 20000 in
theorem mp_rcA_5 (h : sm_H) (d : Nat) (zt : Int) : mj_path [(172, (3, 1, sb_172))] sx_sk h 13 [0, 0, 0] (d, 172, 0, [some (.inr (.inr 109)), some (.inl (zt)), none], [], [], []) = some ((d, 172, 26, [some (.inr (.inr 109)), some (.inl (zt)), none], [.inl ((0 : Int))], [.inl (13952, (1 : Int))], []), [((0 : Int)) ≤ zt, ((1 : Int)) < zt, ((0 : Int)) < ((1 : Int))]) := rfl
theorem mi_tab_rcA_5 : ∀ e ∈ ([(172, (3, 1, sb_172))] : mi_T), sc_P e.1 = some e.2 := mi_tb mi_P172 (mi_tb_e)
set_option maxRecDepth 20000 in
theorem ms_rcA_5 {h : sm_H} {d : Nat} {Q : Option mi_V → sm_H → Prop} {zt : Int} (hS : ab_Sh sx_sk h) (ok_zt : mi_in zt) (ho : (((0 : Int)) ≤ zt) ∧ (((1 : Int)) < zt) ∧ (((0 : Int)) < ((1 : Int)))) (kon : ∀ h1, me_W [.inl (13952, (1 : Int))] h h1 → Q (some (.inl ((0 : Int)))) h1) : me_E (d) 172 0 [some (.inr (.inr 109)), some (.inl (zt)), none] [] h Q := mf_seg (mp_rcA_5 h d zt) (mi_tab_rcA_5) hS (mi_okL_c (trivial) (mi_okL_c (ok_zt) (mi_okL_n (mi_okL_e)))) (mi_okS_e) (mi_al (ho.1) (mi_al (ho.2.1) (mi_al (ho.2.2) (mi_al_e)))) (fun h1 W _ hst => mf_ret (M := (3, 1, sb_172)) rfl rfl rfl hst (mi_al_e) (kon h1 W))
set_option maxRecDepth 20000 in
theorem mt_rcA {h : sm_H} {d : Nat} {Q : Option mi_V → sm_H → Prop} {zt : Int} (hS : ab_Sh sx_sk h) (ok_zt : mi_in zt) (k0 : (zt < ((0 : Int))) → (∀ h1, ab_Sh sx_sk h1 → mi_f h1 13952 = (1 : Int) → ab_Fr [(13952, 13953)] h h1 → Q (some (.inl ((0 : Int)))) h1)) (k1 : (0 ≤ mi_f h 13953 ∧ mi_f h 13953 ≤ 240) → (0 ≤ mi_f h 13954 ∧ mi_f h 13954 ≤ 160) → (((0 : Int)) ≤ zt) → (zt ≤ ((1 : Int))) → (zt ≠ ((0 : Int))) → (zt ≠ ((1 : Int))) → ((0 ≤ (mi_f h 13953) ∧ (mi_f h 13953) ≤ 240) ∧ (0 ≤ (mi_f h 13954) ∧ (mi_f h 13954) ≤ 160)) ∧ (∀ h1, ab_Sh sx_sk h1 → mi_f h1 13952 = (0 : Int) → mi_f h1 13953 = mi_f h 13953 → mi_f h1 13954 = mi_f h 13954 → ab_Fr [(13952, 13955)] h h1 → Q (some (.inl (mi_f h 13954))) h1)) (k2 : (0 ≤ mi_f h 13953 ∧ mi_f h 13953 ≤ 240) → (((0 : Int)) ≤ zt) → (zt ≤ ((1 : Int))) → (zt ≠ ((0 : Int))) → (zt = ((1 : Int))) → ((0 ≤ (mi_f h 13953) ∧ (mi_f h 13953) ≤ 240)) ∧ (∀ h1, ab_Sh sx_sk h1 → mi_f h1 13952 = (0 : Int) → mi_f h1 13953 = mi_f h 13953 → mi_f h1 13954 = (0 : Int) → ab_Fr [(13952, 13955)] h h1 → Q (some (.inl (mi_f h 13954))) h1)) (k3 : (0 ≤ mi_f h 13954 ∧ mi_f h 13954 ≤ 160) → (((0 : Int)) ≤ zt) → (zt ≤ ((1 : Int))) → (zt = ((0 : Int))) → (zt ≠ ((1 : Int))) → ((0 ≤ (mi_f h 13954) ∧ (mi_f h 13954) ≤ 160)) ∧ (∀ h1, ab_Sh sx_sk h1 → mi_f h1 13952 = (0 : Int) → mi_f h1 13953 = (0 : Int) → mi_f h1 13954 = mi_f h 13954 → ab_Fr [(13952, 13955)] h h1 → Q (some (.inl (mi_f h 13953))) h1)) (k4 : (((0 : Int)) ≤ zt) → (zt ≤ ((1 : Int))) → (zt = ((0 : Int))) → (zt = ((1 : Int))) → (∀ h1, ab_Sh sx_sk h1 → mi_f h1 13952 = (0 : Int) → mi_f h1 13953 = (0 : Int) → mi_f h1 13954 = (0 : Int) → ab_Fr [(13952, 13955)] h h1 → Q (some (.inl (mi_f h 13953))) h1)) (k5 : (((0 : Int)) ≤ zt) → (((1 : Int)) < zt) → (∀ h1, ab_Sh sx_sk h1 → mi_f h1 13952 = (1 : Int) → ab_Fr [(13952, 13953)] h h1 → Q (some (.inl ((0 : Int)))) h1)) : me_E (d) 172 0 [some (.inr (.inr 109)), some (.inl (zt)), none] [] h Q := Or.elim (mi_em .lt (zt) (((0 : Int)))) (fun c0 => ms_rcA_0 hS ok_zt ⟨c0, (by decide)⟩ (fun h1 W => (k0 c0) h1 W.1 (W.2.1 13952) (W.2.2.2.2.2 _ rfl))) (fun c0 => Or.elim (mi_em .le (zt) (((1 : Int)))) (fun c1 => Or.elim (mi_em .ne (zt) (((0 : Int)))) (fun c2 => Or.elim (mi_em .ne (zt) (((1 : Int)))) (fun c3 => ms_rcA_1 hS ok_zt ⟨c0, c1, (by decide), c2, c2, (k1 (me_fb hS rfl) (me_fb hS rfl) c0 c1 c2 c3).1.1, c3, (k1 (me_fb hS rfl) (me_fb hS rfl) c0 c1 c2 c3).1.2⟩ (fun h1 W => (k1 (me_fb hS rfl) (me_fb hS rfl) c0 c1 c2 c3).2 h1 W.1 (W.2.1 13952) (W.2.1 13953) (W.2.1 13954) (W.2.2.2.2.2 _ rfl))) (fun c3 => ms_rcA_2 hS ok_zt ⟨c0, c1, (by decide), c2, c2, (k2 (me_fb hS rfl) c0 c1 c2 c3).1, c3, (by decide)⟩ (fun h1 W => (k2 (me_fb hS rfl) c0 c1 c2 c3).2 h1 W.1 (W.2.1 13952) (W.2.1 13953) (W.2.1 13954) (W.2.2.2.2.2 _ rfl)))) (fun c2 => Or.elim (mi_em .ne (zt) (((1 : Int)))) (fun c3 => ms_rcA_3 hS ok_zt ⟨c0, c1, (by decide), c2, c2, (by decide), c3, (k3 (me_fb hS rfl) c0 c1 c2 c3).1⟩ (fun h1 W => (k3 (me_fb hS rfl) c0 c1 c2 c3).2 h1 W.1 (W.2.1 13952) (W.2.1 13953) (W.2.1 13954) (W.2.2.2.2.2 _ rfl))) (fun c3 => ms_rcA_4 hS ok_zt ⟨c0, c1, (by decide), c2, c2, (by decide), c3, (by decide)⟩ (fun h1 W => (k4 c0 c1 c2 c3) h1 W.1 (W.2.1 13952) (W.2.1 13953) (W.2.1 13954) (W.2.2.2.2.2 _ rfl))))) (fun c1 => ms_rcA_5 hS ok_zt ⟨c0, c1, (by decide)⟩ (fun h1 W => (k5 c0 c1) h1 W.1 (W.2.1 13952) (W.2.2.2.2.2 _ rfl))))
set_option maxRecDepth 20000 in
theorem mp_rsA_0 (h : sm_H) (d : Nat) (zk : Int) : mj_path [(173, (2, 1, sb_173))] sx_sk h 10 [1, 0] (d + 1, 173, 0, [some (.inr (.inr 109)), some (.inl (zk))], [], [], []) = some ((d + 1, 173, 26, [some (.inr (.inr 109)), some (.inl (zk))], [.inl ((0 : Int))], [.inl (13952, (1 : Int))], []), [zk < ((0 : Int)), ((0 : Int)) < ((1 : Int))]) := rfl
theorem mi_tab_rsA_0 : ∀ e ∈ ([(173, (2, 1, sb_173))] : mi_T), sc_P e.1 = some e.2 := mi_tb mi_P173 (mi_tb_e)
set_option maxRecDepth 20000 in
theorem ms_rsA_0 {h : sm_H} {d : Nat} {Q : Option mi_V → sm_H → Prop} {zk : Int} (hS : ab_Sh sx_sk h) (ok_zk : mi_in zk) (ho : (zk < ((0 : Int))) ∧ (((0 : Int)) < ((1 : Int)))) (kon : ∀ h1, me_W [.inl (13952, (1 : Int))] h h1 → Q (some (.inl ((0 : Int)))) h1) : me_E (d + 1) 173 0 [some (.inr (.inr 109)), some (.inl (zk))] [] h Q := mf_seg (mp_rsA_0 h d zk) (mi_tab_rsA_0) hS (mi_okL_c (trivial) (mi_okL_c (ok_zk) (mi_okL_e))) (mi_okS_e) (mi_al (ho.1) (mi_al (ho.2) (mi_al_e))) (fun h1 W _ hst => mf_ret (M := (2, 1, sb_173)) rfl rfl rfl hst (mi_al_e) (kon h1 W))
set_option maxRecDepth 20000 in
theorem mp_rsA_1 (h : sm_H) (d : Nat) (zk : Int) : mj_path [(173, (2, 1, sb_173))] sx_sk h 21 [0, 1, 1, 1, 1] (d + 1, 173, 0, [some (.inr (.inr 109)), some (.inl (zk))], [], [], []) = some ((d + 1, 173, 247, [some (.inr (.inr 109)), some (.inl (zk))], [.inr (.inl (Int64.ofNat 2891411184374587460)), .inr (.inr 109)], [.inl (13953, (0 : Int)), .inl (13952, (0 : Int))], []), [((0 : Int)) ≤ zk, zk ≤ ((2 : Int)), ((0 : Int)) ≤ ((0 : Int)), 0 ≤ ((0 : Int)) ∧ ((0 : Int)) ≤ 240, zk ≠ ((0 : Int)), zk ≠ ((1 : Int))]) := rfl
theorem mi_tab_rsA_1 : ∀ e ∈ ([(173, (2, 1, sb_173))] : mi_T), sc_P e.1 = some e.2 := mi_tb mi_P173 (mi_tb_e)
set_option maxRecDepth 20000 in
theorem ms_rsA_1 {h : sm_H} {d : Nat} {Q : Option mi_V → sm_H → Prop} {zk : Int} (hS : ab_Sh sx_sk h) (ok_zk : mi_in zk) (ho : (((0 : Int)) ≤ zk) ∧ (zk ≤ ((2 : Int))) ∧ (((0 : Int)) ≤ ((0 : Int))) ∧ (0 ≤ ((0 : Int)) ∧ ((0 : Int)) ≤ 240) ∧ (zk ≠ ((0 : Int))) ∧ (zk ≠ ((1 : Int)))) (kon : ∀ h1, me_W [.inl (13953, (0 : Int)), .inl (13952, (0 : Int))] h h1 → ∃ Q1, me_E (d + 0) 174 0 (mi_entry 5 [.inr (.inr 109), .inr (.inl (Int64.ofNat 2891411184374587460))]) [] h1 Q1 ∧ ∀ w h2, (∀ x, w = some x → mi_ok x) → Q1 w h2 → me_E (d + 1) 173 250 [some (.inr (.inr 109)), some (.inl (zk))] (mi_back w []) h2 Q) : me_E (d + 1) 173 0 [some (.inr (.inr 109)), some (.inl (zk))] [] h Q := mf_seg (mp_rsA_1 h d zk) (mi_tab_rsA_1) hS (mi_okL_c (trivial) (mi_okL_c (ok_zk) (mi_okL_e))) (mi_okS_e) (mi_al (ho.1) (mi_al (ho.2.1) (mi_al (ho.2.2.1) (mi_al (ho.2.2.2.1) (mi_al (ho.2.2.2.2.1) (mi_al (ho.2.2.2.2.2) (mi_al_e))))))) (fun h1 W _ hst => let ⟨_, k1, k2⟩ := kon h1 W; mf_call (M := (2, 1, sb_173)) (M' := (5, 0, sb_174)) rfl rfl rfl rfl (Nat.le_of_ble_eq_true rfl) (Nat.le_of_ble_eq_true rfl) W.1 k1 k2)
set_option maxRecDepth 20000 in
theorem mp_rsA_2 (h : sm_H) (d : Nat) (zk : Int) : mj_path [(173, (2, 1, sb_173))] sx_sk h 21 [0, 1, 1, 1, 0] (d + 1, 173, 0, [some (.inr (.inr 109)), some (.inl (zk))], [], [], []) = some ((d + 1, 173, 125, [some (.inr (.inr 109)), some (.inl (zk))], [.inr (.inl (Int64.ofNat 7214902011022352464)), .inr (.inr 109)], [.inl (13953, (0 : Int)), .inl (13952, (0 : Int))], []), [((0 : Int)) ≤ zk, zk ≤ ((2 : Int)), ((0 : Int)) ≤ ((0 : Int)), 0 ≤ ((0 : Int)) ∧ ((0 : Int)) ≤ 240, zk ≠ ((0 : Int)), zk = ((1 : Int))]) := rfl
theorem mi_tab_rsA_2 : ∀ e ∈ ([(173, (2, 1, sb_173))] : mi_T), sc_P e.1 = some e.2 := mi_tb mi_P173 (mi_tb_e)
set_option maxRecDepth 20000 in
theorem ms_rsA_2 {h : sm_H} {d : Nat} {Q : Option mi_V → sm_H → Prop} {zk : Int} (hS : ab_Sh sx_sk h) (ok_zk : mi_in zk) (ho : (((0 : Int)) ≤ zk) ∧ (zk ≤ ((2 : Int))) ∧ (((0 : Int)) ≤ ((0 : Int))) ∧ (0 ≤ ((0 : Int)) ∧ ((0 : Int)) ≤ 240) ∧ (zk ≠ ((0 : Int))) ∧ (zk = ((1 : Int)))) (kon : ∀ h1, me_W [.inl (13953, (0 : Int)), .inl (13952, (0 : Int))] h h1 → ∃ Q1, me_E (d + 0) 174 0 (mi_entry 5 [.inr (.inr 109), .inr (.inl (Int64.ofNat 7214902011022352464))]) [] h1 Q1 ∧ ∀ w h2, (∀ x, w = some x → mi_ok x) → Q1 w h2 → me_E (d + 1) 173 128 [some (.inr (.inr 109)), some (.inl (zk))] (mi_back w []) h2 Q) : me_E (d + 1) 173 0 [some (.inr (.inr 109)), some (.inl (zk))] [] h Q := mf_seg (mp_rsA_2 h d zk) (mi_tab_rsA_2) hS (mi_okL_c (trivial) (mi_okL_c (ok_zk) (mi_okL_e))) (mi_okS_e) (mi_al (ho.1) (mi_al (ho.2.1) (mi_al (ho.2.2.1) (mi_al (ho.2.2.2.1) (mi_al (ho.2.2.2.2.1) (mi_al (ho.2.2.2.2.2) (mi_al_e))))))) (fun h1 W _ hst => let ⟨_, k1, k2⟩ := kon h1 W; mf_call (M := (2, 1, sb_173)) (M' := (5, 0, sb_174)) rfl rfl rfl rfl (Nat.le_of_ble_eq_true rfl) (Nat.le_of_ble_eq_true rfl) W.1 k1 k2)
set_option maxRecDepth 20000 in
theorem mp_rsA_3 (h : sm_H) (d : Nat) (zk : Int) : mj_path [(173, (2, 1, sb_173))] sx_sk h 18 [0, 1, 1, 0] (d + 1, 173, 0, [some (.inr (.inr 109)), some (.inl (zk))], [], [], []) = some ((d + 1, 173, 40, [some (.inr (.inr 109)), some (.inl (zk))], [.inr (.inl (Int64.ofNat 2317137553972338757)), .inr (.inr 109)], [.inl (13953, (0 : Int)), .inl (13952, (0 : Int))], []), [((0 : Int)) ≤ zk, zk ≤ ((2 : Int)), ((0 : Int)) ≤ ((0 : Int)), 0 ≤ ((0 : Int)) ∧ ((0 : Int)) ≤ 240, zk = ((0 : Int))]) := rfl
theorem mi_tab_rsA_3 : ∀ e ∈ ([(173, (2, 1, sb_173))] : mi_T), sc_P e.1 = some e.2 := mi_tb mi_P173 (mi_tb_e)
set_option maxRecDepth 20000 in
theorem ms_rsA_3 {h : sm_H} {d : Nat} {Q : Option mi_V → sm_H → Prop} {zk : Int} (hS : ab_Sh sx_sk h) (ok_zk : mi_in zk) (ho : (((0 : Int)) ≤ zk) ∧ (zk ≤ ((2 : Int))) ∧ (((0 : Int)) ≤ ((0 : Int))) ∧ (0 ≤ ((0 : Int)) ∧ ((0 : Int)) ≤ 240) ∧ (zk = ((0 : Int)))) (kon : ∀ h1, me_W [.inl (13953, (0 : Int)), .inl (13952, (0 : Int))] h h1 → ∃ Q1, me_E (d + 0) 174 0 (mi_entry 5 [.inr (.inr 109), .inr (.inl (Int64.ofNat 2317137553972338757))]) [] h1 Q1 ∧ ∀ w h2, (∀ x, w = some x → mi_ok x) → Q1 w h2 → me_E (d + 1) 173 43 [some (.inr (.inr 109)), some (.inl (zk))] (mi_back w []) h2 Q) : me_E (d + 1) 173 0 [some (.inr (.inr 109)), some (.inl (zk))] [] h Q := mf_seg (mp_rsA_3 h d zk) (mi_tab_rsA_3) hS (mi_okL_c (trivial) (mi_okL_c (ok_zk) (mi_okL_e))) (mi_okS_e) (mi_al (ho.1) (mi_al (ho.2.1) (mi_al (ho.2.2.1) (mi_al (ho.2.2.2.1) (mi_al (ho.2.2.2.2) (mi_al_e)))))) (fun h1 W _ hst => let ⟨_, k1, k2⟩ := kon h1 W; mf_call (M := (2, 1, sb_173)) (M' := (5, 0, sb_174)) rfl rfl rfl rfl (Nat.le_of_ble_eq_true rfl) (Nat.le_of_ble_eq_true rfl) W.1 k1 k2)
set_option maxRecDepth 20000 in
theorem mp_rsA_4 (h : sm_H) (d : Nat) (zk : Int) : mj_path [(173, (2, 1, sb_173))] sx_sk h 13 [0, 0, 0] (d + 1, 173, 0, [some (.inr (.inr 109)), some (.inl (zk))], [], [], []) = some ((d + 1, 173, 26, [some (.inr (.inr 109)), some (.inl (zk))], [.inl ((0 : Int))], [.inl (13952, (1 : Int))], []), [((0 : Int)) ≤ zk, ((2 : Int)) < zk, ((0 : Int)) < ((1 : Int))]) := rfl
theorem mi_tab_rsA_4 : ∀ e ∈ ([(173, (2, 1, sb_173))] : mi_T), sc_P e.1 = some e.2 := mi_tb mi_P173 (mi_tb_e)
set_option maxRecDepth 20000 in
theorem ms_rsA_4 {h : sm_H} {d : Nat} {Q : Option mi_V → sm_H → Prop} {zk : Int} (hS : ab_Sh sx_sk h) (ok_zk : mi_in zk) (ho : (((0 : Int)) ≤ zk) ∧ (((2 : Int)) < zk) ∧ (((0 : Int)) < ((1 : Int)))) (kon : ∀ h1, me_W [.inl (13952, (1 : Int))] h h1 → Q (some (.inl ((0 : Int)))) h1) : me_E (d + 1) 173 0 [some (.inr (.inr 109)), some (.inl (zk))] [] h Q := mf_seg (mp_rsA_4 h d zk) (mi_tab_rsA_4) hS (mi_okL_c (trivial) (mi_okL_c (ok_zk) (mi_okL_e))) (mi_okS_e) (mi_al (ho.1) (mi_al (ho.2.1) (mi_al (ho.2.2) (mi_al_e)))) (fun h1 W _ hst => mf_ret (M := (2, 1, sb_173)) rfl rfl rfl hst (mi_al_e) (kon h1 W))
set_option maxRecDepth 20000 in
theorem mt_rsA {h : sm_H} {d : Nat} {Q : Option mi_V → sm_H → Prop} {zk : Int} (hS : ab_Sh sx_sk h) (ok_zk : mi_in zk) (k0 : (zk < ((0 : Int))) → (∀ h1, ab_Sh sx_sk h1 → mi_f h1 13952 = (1 : Int) → ab_Fr [(13952, 13953)] h h1 → Q (some (.inl ((0 : Int)))) h1)) (k1 : (((0 : Int)) ≤ zk) → (zk ≤ ((2 : Int))) → (zk ≠ ((0 : Int))) → (zk ≠ ((1 : Int))) → (∀ h1, ab_Sh sx_sk h1 → mi_f h1 13952 = (0 : Int) → mi_f h1 13953 = (0 : Int) → ab_Fr [(13952, 13954)] h h1 → ∃ Q1, me_E (d + 0) 174 0 (mi_entry 5 [.inr (.inr 109), .inr (.inl (Int64.ofNat 2891411184374587460))]) [] h1 Q1 ∧ ∀ w h2, (∀ x, w = some x → mi_ok x) → Q1 w h2 → me_E (d + 1) 173 250 [some (.inr (.inr 109)), some (.inl (zk))] (mi_back w []) h2 Q)) (k2 : (((0 : Int)) ≤ zk) → (zk ≤ ((2 : Int))) → (zk ≠ ((0 : Int))) → (zk = ((1 : Int))) → (∀ h1, ab_Sh sx_sk h1 → mi_f h1 13952 = (0 : Int) → mi_f h1 13953 = (0 : Int) → ab_Fr [(13952, 13954)] h h1 → ∃ Q1, me_E (d + 0) 174 0 (mi_entry 5 [.inr (.inr 109), .inr (.inl (Int64.ofNat 7214902011022352464))]) [] h1 Q1 ∧ ∀ w h2, (∀ x, w = some x → mi_ok x) → Q1 w h2 → me_E (d + 1) 173 128 [some (.inr (.inr 109)), some (.inl (zk))] (mi_back w []) h2 Q)) (k3 : (((0 : Int)) ≤ zk) → (zk ≤ ((2 : Int))) → (zk = ((0 : Int))) → (∀ h1, ab_Sh sx_sk h1 → mi_f h1 13952 = (0 : Int) → mi_f h1 13953 = (0 : Int) → ab_Fr [(13952, 13954)] h h1 → ∃ Q1, me_E (d + 0) 174 0 (mi_entry 5 [.inr (.inr 109), .inr (.inl (Int64.ofNat 2317137553972338757))]) [] h1 Q1 ∧ ∀ w h2, (∀ x, w = some x → mi_ok x) → Q1 w h2 → me_E (d + 1) 173 43 [some (.inr (.inr 109)), some (.inl (zk))] (mi_back w []) h2 Q)) (k4 : (((0 : Int)) ≤ zk) → (((2 : Int)) < zk) → (∀ h1, ab_Sh sx_sk h1 → mi_f h1 13952 = (1 : Int) → ab_Fr [(13952, 13953)] h h1 → Q (some (.inl ((0 : Int)))) h1)) : me_E (d + 1) 173 0 [some (.inr (.inr 109)), some (.inl (zk))] [] h Q := Or.elim (mi_em .lt (zk) (((0 : Int)))) (fun c0 => ms_rsA_0 hS ok_zk ⟨c0, (by decide)⟩ (fun h1 W => (k0 c0) h1 W.1 (W.2.1 13952) (W.2.2.2.2.2 _ rfl))) (fun c0 => Or.elim (mi_em .le (zk) (((2 : Int)))) (fun c1 => Or.elim (mi_em .ne (zk) (((0 : Int)))) (fun c2 => Or.elim (mi_em .ne (zk) (((1 : Int)))) (fun c3 => ms_rsA_1 hS ok_zk ⟨c0, c1, (by decide), (by decide), c2, c3⟩ (fun h1 W => (k1 c0 c1 c2 c3) h1 W.1 (W.2.1 13952) (W.2.1 13953) (W.2.2.2.2.2 _ rfl))) (fun c3 => ms_rsA_2 hS ok_zk ⟨c0, c1, (by decide), (by decide), c2, c3⟩ (fun h1 W => (k2 c0 c1 c2 c3) h1 W.1 (W.2.1 13952) (W.2.1 13953) (W.2.2.2.2.2 _ rfl)))) (fun c2 => ms_rsA_3 hS ok_zk ⟨c0, c1, (by decide), (by decide), c2⟩ (fun h1 W => (k3 c0 c1 c2) h1 W.1 (W.2.1 13952) (W.2.1 13953) (W.2.2.2.2.2 _ rfl)))) (fun c1 => ms_rsA_4 hS ok_zk ⟨c0, c1, (by decide)⟩ (fun h1 W => (k4 c0 c1) h1 W.1 (W.2.1 13952) (W.2.2.2.2.2 _ rfl))))
set_option maxRecDepth 20000 in
theorem mp_rs43_0 (h : sm_H) (d : Nat) (zk : Int) : mj_path [(173, (2, 1, sb_173))] sx_sk h 2 [] (d + 1, 173, 43, [some (.inr (.inr 109)), some (.inl (zk))], [], [], []) = some ((d + 1, 173, 47, [some (.inr (.inr 109)), some (.inl (zk))], [.inr (.inl (Int64.ofNat 2819389844338712616)), .inr (.inr 109)], [], []), []) := rfl
theorem mi_tab_rs43_0 : ∀ e ∈ ([(173, (2, 1, sb_173))] : mi_T), sc_P e.1 = some e.2 := mi_tb mi_P173 (mi_tb_e)
set_option maxRecDepth 20000 in
theorem ms_rs43_0 {h : sm_H} {d : Nat} {Q : Option mi_V → sm_H → Prop} {zk : Int} (hS : ab_Sh sx_sk h) (ok_zk : mi_in zk) (kon : ∀ h1, me_W [] h h1 → ∃ Q1, me_E (d + 0) 174 0 (mi_entry 5 [.inr (.inr 109), .inr (.inl (Int64.ofNat 2819389844338712616))]) [] h1 Q1 ∧ ∀ w h2, (∀ x, w = some x → mi_ok x) → Q1 w h2 → me_E (d + 1) 173 50 [some (.inr (.inr 109)), some (.inl (zk))] (mi_back w []) h2 Q) : me_E (d + 1) 173 43 [some (.inr (.inr 109)), some (.inl (zk))] [] h Q := mf_seg (mp_rs43_0 h d zk) (mi_tab_rs43_0) hS (mi_okL_c (trivial) (mi_okL_c (ok_zk) (mi_okL_e))) (mi_okS_e) (mi_al_e) (fun h1 W _ hst => let ⟨_, k1, k2⟩ := kon h1 W; mf_call (M := (2, 1, sb_173)) (M' := (5, 0, sb_174)) rfl rfl rfl rfl (Nat.le_of_ble_eq_true rfl) (Nat.le_of_ble_eq_true rfl) W.1 k1 k2)
set_option maxRecDepth 20000 in
theorem mt_rs43 {h : sm_H} {d : Nat} {Q : Option mi_V → sm_H → Prop} {zk : Int} (hS : ab_Sh sx_sk h) (ok_zk : mi_in zk) (k0 : (∀ h1, ab_Sh sx_sk h1 → ab_Fr [] h h1 → ∃ Q1, me_E (d + 0) 174 0 (mi_entry 5 [.inr (.inr 109), .inr (.inl (Int64.ofNat 2819389844338712616))]) [] h1 Q1 ∧ ∀ w h2, (∀ x, w = some x → mi_ok x) → Q1 w h2 → me_E (d + 1) 173 50 [some (.inr (.inr 109)), some (.inl (zk))] (mi_back w []) h2 Q)) : me_E (d + 1) 173 43 [some (.inr (.inr 109)), some (.inl (zk))] [] h Q := ms_rs43_0 hS ok_zk (fun h1 W => (k0) h1 W.1 (W.2.2.2.2.2 _ rfl))
set_option maxRecDepth 20000 in
theorem mp_rs50_0 (h : sm_H) (d : Nat) (zk : Int) : mj_path [(173, (2, 1, sb_173))] sx_sk h 2 [] (d + 1, 173, 50, [some (.inr (.inr 109)), some (.inl (zk))], [], [], []) = some ((d + 1, 173, 54, [some (.inr (.inr 109)), some (.inl (zk))], [.inr (.inl (Int64.ofNat 3037994969327018029)), .inr (.inr 109)], [], []), []) := rfl
theorem mi_tab_rs50_0 : ∀ e ∈ ([(173, (2, 1, sb_173))] : mi_T), sc_P e.1 = some e.2 := mi_tb mi_P173 (mi_tb_e)
set_option maxRecDepth 20000 in
theorem ms_rs50_0 {h : sm_H} {d : Nat} {Q : Option mi_V → sm_H → Prop} {zk : Int} (hS : ab_Sh sx_sk h) (ok_zk : mi_in zk) (kon : ∀ h1, me_W [] h h1 → ∃ Q1, me_E (d + 0) 174 0 (mi_entry 5 [.inr (.inr 109), .inr (.inl (Int64.ofNat 3037994969327018029))]) [] h1 Q1 ∧ ∀ w h2, (∀ x, w = some x → mi_ok x) → Q1 w h2 → me_E (d + 1) 173 57 [some (.inr (.inr 109)), some (.inl (zk))] (mi_back w []) h2 Q) : me_E (d + 1) 173 50 [some (.inr (.inr 109)), some (.inl (zk))] [] h Q := mf_seg (mp_rs50_0 h d zk) (mi_tab_rs50_0) hS (mi_okL_c (trivial) (mi_okL_c (ok_zk) (mi_okL_e))) (mi_okS_e) (mi_al_e) (fun h1 W _ hst => let ⟨_, k1, k2⟩ := kon h1 W; mf_call (M := (2, 1, sb_173)) (M' := (5, 0, sb_174)) rfl rfl rfl rfl (Nat.le_of_ble_eq_true rfl) (Nat.le_of_ble_eq_true rfl) W.1 k1 k2)
set_option maxRecDepth 20000 in
theorem mt_rs50 {h : sm_H} {d : Nat} {Q : Option mi_V → sm_H → Prop} {zk : Int} (hS : ab_Sh sx_sk h) (ok_zk : mi_in zk) (k0 : (∀ h1, ab_Sh sx_sk h1 → ab_Fr [] h h1 → ∃ Q1, me_E (d + 0) 174 0 (mi_entry 5 [.inr (.inr 109), .inr (.inl (Int64.ofNat 3037994969327018029))]) [] h1 Q1 ∧ ∀ w h2, (∀ x, w = some x → mi_ok x) → Q1 w h2 → me_E (d + 1) 173 57 [some (.inr (.inr 109)), some (.inl (zk))] (mi_back w []) h2 Q)) : me_E (d + 1) 173 50 [some (.inr (.inr 109)), some (.inl (zk))] [] h Q := ms_rs50_0 hS ok_zk (fun h1 W => (k0) h1 W.1 (W.2.2.2.2.2 _ rfl))
set_option maxRecDepth 20000 in
theorem mp_rs57_0 (h : sm_H) (d : Nat) (zk : Int) : mj_path [(173, (2, 1, sb_173))] sx_sk h 2 [] (d + 1, 173, 57, [some (.inr (.inr 109)), some (.inl (zk))], [], [], []) = some ((d + 1, 173, 61, [some (.inr (.inr 109)), some (.inl (zk))], [.inr (.inl (Int64.ofNat 5053105990967900960)), .inr (.inr 109)], [], []), []) := rfl
theorem mi_tab_rs57_0 : ∀ e ∈ ([(173, (2, 1, sb_173))] : mi_T), sc_P e.1 = some e.2 := mi_tb mi_P173 (mi_tb_e)
set_option maxRecDepth 20000 in
theorem ms_rs57_0 {h : sm_H} {d : Nat} {Q : Option mi_V → sm_H → Prop} {zk : Int} (hS : ab_Sh sx_sk h) (ok_zk : mi_in zk) (kon : ∀ h1, me_W [] h h1 → ∃ Q1, me_E (d + 0) 174 0 (mi_entry 5 [.inr (.inr 109), .inr (.inl (Int64.ofNat 5053105990967900960))]) [] h1 Q1 ∧ ∀ w h2, (∀ x, w = some x → mi_ok x) → Q1 w h2 → me_E (d + 1) 173 64 [some (.inr (.inr 109)), some (.inl (zk))] (mi_back w []) h2 Q) : me_E (d + 1) 173 57 [some (.inr (.inr 109)), some (.inl (zk))] [] h Q := mf_seg (mp_rs57_0 h d zk) (mi_tab_rs57_0) hS (mi_okL_c (trivial) (mi_okL_c (ok_zk) (mi_okL_e))) (mi_okS_e) (mi_al_e) (fun h1 W _ hst => let ⟨_, k1, k2⟩ := kon h1 W; mf_call (M := (2, 1, sb_173)) (M' := (5, 0, sb_174)) rfl rfl rfl rfl (Nat.le_of_ble_eq_true rfl) (Nat.le_of_ble_eq_true rfl) W.1 k1 k2)
set_option maxRecDepth 20000 in
theorem mt_rs57 {h : sm_H} {d : Nat} {Q : Option mi_V → sm_H → Prop} {zk : Int} (hS : ab_Sh sx_sk h) (ok_zk : mi_in zk) (k0 : (∀ h1, ab_Sh sx_sk h1 → ab_Fr [] h h1 → ∃ Q1, me_E (d + 0) 174 0 (mi_entry 5 [.inr (.inr 109), .inr (.inl (Int64.ofNat 5053105990967900960))]) [] h1 Q1 ∧ ∀ w h2, (∀ x, w = some x → mi_ok x) → Q1 w h2 → me_E (d + 1) 173 64 [some (.inr (.inr 109)), some (.inl (zk))] (mi_back w []) h2 Q)) : me_E (d + 1) 173 57 [some (.inr (.inr 109)), some (.inl (zk))] [] h Q := ms_rs57_0 hS ok_zk (fun h1 W => (k0) h1 W.1 (W.2.2.2.2.2 _ rfl))
set_option maxRecDepth 20000 in
theorem mp_rs64_0 (h : sm_H) (d : Nat) (zk : Int) : mj_path [(173, (2, 1, sb_173))] sx_sk h 2 [] (d + 1, 173, 64, [some (.inr (.inr 109)), some (.inl (zk))], [], [], []) = some ((d + 1, 173, 68, [some (.inr (.inr 109)), some (.inl (zk))], [.inr (.inl (Int64.ofNat 2317707977301174304)), .inr (.inr 109)], [], []), []) := rfl
theorem mi_tab_rs64_0 : ∀ e ∈ ([(173, (2, 1, sb_173))] : mi_T), sc_P e.1 = some e.2 := mi_tb mi_P173 (mi_tb_e)
set_option maxRecDepth 20000 in
theorem ms_rs64_0 {h : sm_H} {d : Nat} {Q : Option mi_V → sm_H → Prop} {zk : Int} (hS : ab_Sh sx_sk h) (ok_zk : mi_in zk) (kon : ∀ h1, me_W [] h h1 → ∃ Q1, me_E (d + 0) 174 0 (mi_entry 5 [.inr (.inr 109), .inr (.inl (Int64.ofNat 2317707977301174304))]) [] h1 Q1 ∧ ∀ w h2, (∀ x, w = some x → mi_ok x) → Q1 w h2 → me_E (d + 1) 173 71 [some (.inr (.inr 109)), some (.inl (zk))] (mi_back w []) h2 Q) : me_E (d + 1) 173 64 [some (.inr (.inr 109)), some (.inl (zk))] [] h Q := mf_seg (mp_rs64_0 h d zk) (mi_tab_rs64_0) hS (mi_okL_c (trivial) (mi_okL_c (ok_zk) (mi_okL_e))) (mi_okS_e) (mi_al_e) (fun h1 W _ hst => let ⟨_, k1, k2⟩ := kon h1 W; mf_call (M := (2, 1, sb_173)) (M' := (5, 0, sb_174)) rfl rfl rfl rfl (Nat.le_of_ble_eq_true rfl) (Nat.le_of_ble_eq_true rfl) W.1 k1 k2)
set_option maxRecDepth 20000 in
theorem mt_rs64 {h : sm_H} {d : Nat} {Q : Option mi_V → sm_H → Prop} {zk : Int} (hS : ab_Sh sx_sk h) (ok_zk : mi_in zk) (k0 : (∀ h1, ab_Sh sx_sk h1 → ab_Fr [] h h1 → ∃ Q1, me_E (d + 0) 174 0 (mi_entry 5 [.inr (.inr 109), .inr (.inl (Int64.ofNat 2317707977301174304))]) [] h1 Q1 ∧ ∀ w h2, (∀ x, w = some x → mi_ok x) → Q1 w h2 → me_E (d + 1) 173 71 [some (.inr (.inr 109)), some (.inl (zk))] (mi_back w []) h2 Q)) : me_E (d + 1) 173 64 [some (.inr (.inr 109)), some (.inl (zk))] [] h Q := ms_rs64_0 hS ok_zk (fun h1 W => (k0) h1 W.1 (W.2.2.2.2.2 _ rfl))
set_option maxRecDepth 20000 in
theorem mp_rs71_0 (h : sm_H) (d : Nat) (zk : Int) : mj_path [(173, (2, 1, sb_173))] sx_sk h 2 [] (d + 1, 173, 71, [some (.inr (.inr 109)), some (.inl (zk))], [], [], []) = some ((d + 1, 173, 75, [some (.inr (.inr 109)), some (.inl (zk))], [.inr (.inl (Int64.ofNat 5053084000116482172)), .inr (.inr 109)], [], []), []) := rfl
theorem mi_tab_rs71_0 : ∀ e ∈ ([(173, (2, 1, sb_173))] : mi_T), sc_P e.1 = some e.2 := mi_tb mi_P173 (mi_tb_e)
set_option maxRecDepth 20000 in
theorem ms_rs71_0 {h : sm_H} {d : Nat} {Q : Option mi_V → sm_H → Prop} {zk : Int} (hS : ab_Sh sx_sk h) (ok_zk : mi_in zk) (kon : ∀ h1, me_W [] h h1 → ∃ Q1, me_E (d + 0) 174 0 (mi_entry 5 [.inr (.inr 109), .inr (.inl (Int64.ofNat 5053084000116482172))]) [] h1 Q1 ∧ ∀ w h2, (∀ x, w = some x → mi_ok x) → Q1 w h2 → me_E (d + 1) 173 78 [some (.inr (.inr 109)), some (.inl (zk))] (mi_back w []) h2 Q) : me_E (d + 1) 173 71 [some (.inr (.inr 109)), some (.inl (zk))] [] h Q := mf_seg (mp_rs71_0 h d zk) (mi_tab_rs71_0) hS (mi_okL_c (trivial) (mi_okL_c (ok_zk) (mi_okL_e))) (mi_okS_e) (mi_al_e) (fun h1 W _ hst => let ⟨_, k1, k2⟩ := kon h1 W; mf_call (M := (2, 1, sb_173)) (M' := (5, 0, sb_174)) rfl rfl rfl rfl (Nat.le_of_ble_eq_true rfl) (Nat.le_of_ble_eq_true rfl) W.1 k1 k2)
set_option maxRecDepth 20000 in
theorem mt_rs71 {h : sm_H} {d : Nat} {Q : Option mi_V → sm_H → Prop} {zk : Int} (hS : ab_Sh sx_sk h) (ok_zk : mi_in zk) (k0 : (∀ h1, ab_Sh sx_sk h1 → ab_Fr [] h h1 → ∃ Q1, me_E (d + 0) 174 0 (mi_entry 5 [.inr (.inr 109), .inr (.inl (Int64.ofNat 5053084000116482172))]) [] h1 Q1 ∧ ∀ w h2, (∀ x, w = some x → mi_ok x) → Q1 w h2 → me_E (d + 1) 173 78 [some (.inr (.inr 109)), some (.inl (zk))] (mi_back w []) h2 Q)) : me_E (d + 1) 173 71 [some (.inr (.inr 109)), some (.inl (zk))] [] h Q := ms_rs71_0 hS ok_zk (fun h1 W => (k0) h1 W.1 (W.2.2.2.2.2 _ rfl))
set_option maxRecDepth 20000 in
theorem mp_rs78_0 (h : sm_H) (d : Nat) (zk : Int) : mj_path [(173, (2, 1, sb_173))] sx_sk h 2 [] (d + 1, 173, 78, [some (.inr (.inr 109)), some (.inl (zk))], [], [], []) = some ((d + 1, 173, 82, [some (.inr (.inr 109)), some (.inl (zk))], [.inr (.inl (Int64.ofNat 2325557506642422048)), .inr (.inr 109)], [], []), []) := rfl
theorem mi_tab_rs78_0 : ∀ e ∈ ([(173, (2, 1, sb_173))] : mi_T), sc_P e.1 = some e.2 := mi_tb mi_P173 (mi_tb_e)
set_option maxRecDepth 20000 in
theorem ms_rs78_0 {h : sm_H} {d : Nat} {Q : Option mi_V → sm_H → Prop} {zk : Int} (hS : ab_Sh sx_sk h) (ok_zk : mi_in zk) (kon : ∀ h1, me_W [] h h1 → ∃ Q1, me_E (d + 0) 174 0 (mi_entry 5 [.inr (.inr 109), .inr (.inl (Int64.ofNat 2325557506642422048))]) [] h1 Q1 ∧ ∀ w h2, (∀ x, w = some x → mi_ok x) → Q1 w h2 → me_E (d + 1) 173 85 [some (.inr (.inr 109)), some (.inl (zk))] (mi_back w []) h2 Q) : me_E (d + 1) 173 78 [some (.inr (.inr 109)), some (.inl (zk))] [] h Q := mf_seg (mp_rs78_0 h d zk) (mi_tab_rs78_0) hS (mi_okL_c (trivial) (mi_okL_c (ok_zk) (mi_okL_e))) (mi_okS_e) (mi_al_e) (fun h1 W _ hst => let ⟨_, k1, k2⟩ := kon h1 W; mf_call (M := (2, 1, sb_173)) (M' := (5, 0, sb_174)) rfl rfl rfl rfl (Nat.le_of_ble_eq_true rfl) (Nat.le_of_ble_eq_true rfl) W.1 k1 k2)
set_option maxRecDepth 20000 in
theorem mt_rs78 {h : sm_H} {d : Nat} {Q : Option mi_V → sm_H → Prop} {zk : Int} (hS : ab_Sh sx_sk h) (ok_zk : mi_in zk) (k0 : (∀ h1, ab_Sh sx_sk h1 → ab_Fr [] h h1 → ∃ Q1, me_E (d + 0) 174 0 (mi_entry 5 [.inr (.inr 109), .inr (.inl (Int64.ofNat 2325557506642422048))]) [] h1 Q1 ∧ ∀ w h2, (∀ x, w = some x → mi_ok x) → Q1 w h2 → me_E (d + 1) 173 85 [some (.inr (.inr 109)), some (.inl (zk))] (mi_back w []) h2 Q)) : me_E (d + 1) 173 78 [some (.inr (.inr 109)), some (.inl (zk))] [] h Q := ms_rs78_0 hS ok_zk (fun h1 W => (k0) h1 W.1 (W.2.2.2.2.2 _ rfl))
set_option maxRecDepth 20000 in
theorem mp_rs85_0 (h : sm_H) (d : Nat) (zk : Int) : mj_path [(173, (2, 1, sb_173))] sx_sk h 2 [] (d + 1, 173, 85, [some (.inr (.inr 109)), some (.inl (zk))], [], [], []) = some ((d + 1, 173, 89, [some (.inr (.inr 109)), some (.inl (zk))], [.inr (.inl (Int64.ofNat 8243102915232669757)), .inr (.inr 109)], [], []), []) := rfl
theorem mi_tab_rs85_0 : ∀ e ∈ ([(173, (2, 1, sb_173))] : mi_T), sc_P e.1 = some e.2 := mi_tb mi_P173 (mi_tb_e)
set_option maxRecDepth 20000 in
theorem ms_rs85_0 {h : sm_H} {d : Nat} {Q : Option mi_V → sm_H → Prop} {zk : Int} (hS : ab_Sh sx_sk h) (ok_zk : mi_in zk) (kon : ∀ h1, me_W [] h h1 → ∃ Q1, me_E (d + 0) 174 0 (mi_entry 5 [.inr (.inr 109), .inr (.inl (Int64.ofNat 8243102915232669757))]) [] h1 Q1 ∧ ∀ w h2, (∀ x, w = some x → mi_ok x) → Q1 w h2 → me_E (d + 1) 173 92 [some (.inr (.inr 109)), some (.inl (zk))] (mi_back w []) h2 Q) : me_E (d + 1) 173 85 [some (.inr (.inr 109)), some (.inl (zk))] [] h Q := mf_seg (mp_rs85_0 h d zk) (mi_tab_rs85_0) hS (mi_okL_c (trivial) (mi_okL_c (ok_zk) (mi_okL_e))) (mi_okS_e) (mi_al_e) (fun h1 W _ hst => let ⟨_, k1, k2⟩ := kon h1 W; mf_call (M := (2, 1, sb_173)) (M' := (5, 0, sb_174)) rfl rfl rfl rfl (Nat.le_of_ble_eq_true rfl) (Nat.le_of_ble_eq_true rfl) W.1 k1 k2)
set_option maxRecDepth 20000 in
theorem mt_rs85 {h : sm_H} {d : Nat} {Q : Option mi_V → sm_H → Prop} {zk : Int} (hS : ab_Sh sx_sk h) (ok_zk : mi_in zk) (k0 : (∀ h1, ab_Sh sx_sk h1 → ab_Fr [] h h1 → ∃ Q1, me_E (d + 0) 174 0 (mi_entry 5 [.inr (.inr 109), .inr (.inl (Int64.ofNat 8243102915232669757))]) [] h1 Q1 ∧ ∀ w h2, (∀ x, w = some x → mi_ok x) → Q1 w h2 → me_E (d + 1) 173 92 [some (.inr (.inr 109)), some (.inl (zk))] (mi_back w []) h2 Q)) : me_E (d + 1) 173 85 [some (.inr (.inr 109)), some (.inl (zk))] [] h Q := ms_rs85_0 hS ok_zk (fun h1 W => (k0) h1 W.1 (W.2.2.2.2.2 _ rfl))
set_option maxRecDepth 20000 in
theorem mp_rs92_0 (h : sm_H) (d : Nat) (zk : Int) : mj_path [(173, (2, 1, sb_173))] sx_sk h 2 [] (d + 1, 173, 92, [some (.inr (.inr 109)), some (.inl (zk))], [], [], []) = some ((d + 1, 173, 96, [some (.inr (.inr 109)), some (.inl (zk))], [.inr (.inl (Int64.ofNat 2334392247088348192)), .inr (.inr 109)], [], []), []) := rfl
theorem mi_tab_rs92_0 : ∀ e ∈ ([(173, (2, 1, sb_173))] : mi_T), sc_P e.1 = some e.2 := mi_tb mi_P173 (mi_tb_e)
set_option maxRecDepth 20000 in
theorem ms_rs92_0 {h : sm_H} {d : Nat} {Q : Option mi_V → sm_H → Prop} {zk : Int} (hS : ab_Sh sx_sk h) (ok_zk : mi_in zk) (kon : ∀ h1, me_W [] h h1 → ∃ Q1, me_E (d + 0) 174 0 (mi_entry 5 [.inr (.inr 109), .inr (.inl (Int64.ofNat 2334392247088348192))]) [] h1 Q1 ∧ ∀ w h2, (∀ x, w = some x → mi_ok x) → Q1 w h2 → me_E (d + 1) 173 99 [some (.inr (.inr 109)), some (.inl (zk))] (mi_back w []) h2 Q) : me_E (d + 1) 173 92 [some (.inr (.inr 109)), some (.inl (zk))] [] h Q := mf_seg (mp_rs92_0 h d zk) (mi_tab_rs92_0) hS (mi_okL_c (trivial) (mi_okL_c (ok_zk) (mi_okL_e))) (mi_okS_e) (mi_al_e) (fun h1 W _ hst => let ⟨_, k1, k2⟩ := kon h1 W; mf_call (M := (2, 1, sb_173)) (M' := (5, 0, sb_174)) rfl rfl rfl rfl (Nat.le_of_ble_eq_true rfl) (Nat.le_of_ble_eq_true rfl) W.1 k1 k2)
set_option maxRecDepth 20000 in
theorem mt_rs92 {h : sm_H} {d : Nat} {Q : Option mi_V → sm_H → Prop} {zk : Int} (hS : ab_Sh sx_sk h) (ok_zk : mi_in zk) (k0 : (∀ h1, ab_Sh sx_sk h1 → ab_Fr [] h h1 → ∃ Q1, me_E (d + 0) 174 0 (mi_entry 5 [.inr (.inr 109), .inr (.inl (Int64.ofNat 2334392247088348192))]) [] h1 Q1 ∧ ∀ w h2, (∀ x, w = some x → mi_ok x) → Q1 w h2 → me_E (d + 1) 173 99 [some (.inr (.inr 109)), some (.inl (zk))] (mi_back w []) h2 Q)) : me_E (d + 1) 173 92 [some (.inr (.inr 109)), some (.inl (zk))] [] h Q := ms_rs92_0 hS ok_zk (fun h1 W => (k0) h1 W.1 (W.2.2.2.2.2 _ rfl))
set_option maxRecDepth 20000 in
theorem mp_rs99_0 (h : sm_H) (d : Nat) (zk : Int) : mj_path [(173, (2, 1, sb_173))] sx_sk h 2 [] (d + 1, 173, 99, [some (.inr (.inr 109)), some (.inl (zk))], [], [], []) = some ((d + 1, 173, 103, [some (.inr (.inr 109)), some (.inl (zk))], [.inr (.inl (Int64.ofNat 2819329371148853372)), .inr (.inr 109)], [], []), []) := rfl
theorem mi_tab_rs99_0 : ∀ e ∈ ([(173, (2, 1, sb_173))] : mi_T), sc_P e.1 = some e.2 := mi_tb mi_P173 (mi_tb_e)
set_option maxRecDepth 20000 in
theorem ms_rs99_0 {h : sm_H} {d : Nat} {Q : Option mi_V → sm_H → Prop} {zk : Int} (hS : ab_Sh sx_sk h) (ok_zk : mi_in zk) (kon : ∀ h1, me_W [] h h1 → ∃ Q1, me_E (d + 0) 174 0 (mi_entry 5 [.inr (.inr 109), .inr (.inl (Int64.ofNat 2819329371148853372))]) [] h1 Q1 ∧ ∀ w h2, (∀ x, w = some x → mi_ok x) → Q1 w h2 → me_E (d + 1) 173 106 [some (.inr (.inr 109)), some (.inl (zk))] (mi_back w []) h2 Q) : me_E (d + 1) 173 99 [some (.inr (.inr 109)), some (.inl (zk))] [] h Q := mf_seg (mp_rs99_0 h d zk) (mi_tab_rs99_0) hS (mi_okL_c (trivial) (mi_okL_c (ok_zk) (mi_okL_e))) (mi_okS_e) (mi_al_e) (fun h1 W _ hst => let ⟨_, k1, k2⟩ := kon h1 W; mf_call (M := (2, 1, sb_173)) (M' := (5, 0, sb_174)) rfl rfl rfl rfl (Nat.le_of_ble_eq_true rfl) (Nat.le_of_ble_eq_true rfl) W.1 k1 k2)
set_option maxRecDepth 20000 in
theorem mt_rs99 {h : sm_H} {d : Nat} {Q : Option mi_V → sm_H → Prop} {zk : Int} (hS : ab_Sh sx_sk h) (ok_zk : mi_in zk) (k0 : (∀ h1, ab_Sh sx_sk h1 → ab_Fr [] h h1 → ∃ Q1, me_E (d + 0) 174 0 (mi_entry 5 [.inr (.inr 109), .inr (.inl (Int64.ofNat 2819329371148853372))]) [] h1 Q1 ∧ ∀ w h2, (∀ x, w = some x → mi_ok x) → Q1 w h2 → me_E (d + 1) 173 106 [some (.inr (.inr 109)), some (.inl (zk))] (mi_back w []) h2 Q)) : me_E (d + 1) 173 99 [some (.inr (.inr 109)), some (.inl (zk))] [] h Q := ms_rs99_0 hS ok_zk (fun h1 W => (k0) h1 W.1 (W.2.2.2.2.2 _ rfl))
set_option maxRecDepth 20000 in
theorem mp_rs106_0 (h : sm_H) (d : Nat) (zk : Int) : mj_path [(173, (2, 1, sb_173))] sx_sk h 2 [] (d + 1, 173, 106, [some (.inr (.inr 109)), some (.inl (zk))], [], [], []) = some ((d + 1, 173, 110, [some (.inr (.inr 109)), some (.inl (zk))], [.inr (.inl (Int64.ofNat 171647017)), .inr (.inr 109)], [], []), []) := rfl
theorem mi_tab_rs106_0 : ∀ e ∈ ([(173, (2, 1, sb_173))] : mi_T), sc_P e.1 = some e.2 := mi_tb mi_P173 (mi_tb_e)
set_option maxRecDepth 20000 in
theorem ms_rs106_0 {h : sm_H} {d : Nat} {Q : Option mi_V → sm_H → Prop} {zk : Int} (hS : ab_Sh sx_sk h) (ok_zk : mi_in zk) (kon : ∀ h1, me_W [] h h1 → ∃ Q1, me_E (d + 0) 174 0 (mi_entry 5 [.inr (.inr 109), .inr (.inl (Int64.ofNat 171647017))]) [] h1 Q1 ∧ ∀ w h2, (∀ x, w = some x → mi_ok x) → Q1 w h2 → me_E (d + 1) 173 113 [some (.inr (.inr 109)), some (.inl (zk))] (mi_back w []) h2 Q) : me_E (d + 1) 173 106 [some (.inr (.inr 109)), some (.inl (zk))] [] h Q := mf_seg (mp_rs106_0 h d zk) (mi_tab_rs106_0) hS (mi_okL_c (trivial) (mi_okL_c (ok_zk) (mi_okL_e))) (mi_okS_e) (mi_al_e) (fun h1 W _ hst => let ⟨_, k1, k2⟩ := kon h1 W; mf_call (M := (2, 1, sb_173)) (M' := (5, 0, sb_174)) rfl rfl rfl rfl (Nat.le_of_ble_eq_true rfl) (Nat.le_of_ble_eq_true rfl) W.1 k1 k2)
set_option maxRecDepth 20000 in
theorem mt_rs106 {h : sm_H} {d : Nat} {Q : Option mi_V → sm_H → Prop} {zk : Int} (hS : ab_Sh sx_sk h) (ok_zk : mi_in zk) (k0 : (∀ h1, ab_Sh sx_sk h1 → ab_Fr [] h h1 → ∃ Q1, me_E (d + 0) 174 0 (mi_entry 5 [.inr (.inr 109), .inr (.inl (Int64.ofNat 171647017))]) [] h1 Q1 ∧ ∀ w h2, (∀ x, w = some x → mi_ok x) → Q1 w h2 → me_E (d + 1) 173 113 [some (.inr (.inr 109)), some (.inl (zk))] (mi_back w []) h2 Q)) : me_E (d + 1) 173 106 [some (.inr (.inr 109)), some (.inl (zk))] [] h Q := ms_rs106_0 hS ok_zk (fun h1 W => (k0) h1 W.1 (W.2.2.2.2.2 _ rfl))
set_option maxRecDepth 20000 in
theorem mp_rs113_0 (h : sm_H) (d : Nat) (zk : Int) : mj_path [(173, (2, 1, sb_173))] sx_sk h 3 [] (d + 1, 173, 113, [some (.inr (.inr 109)), some (.inl (zk))], [], [], []) = some ((d + 1, 173, 331, [some (.inr (.inr 109)), some (.inl (zk))], [.inl (mi_f h 13953)], [], []), []) := rfl
theorem mi_tab_rs113_0 : ∀ e ∈ ([(173, (2, 1, sb_173))] : mi_T), sc_P e.1 = some e.2 := mi_tb mi_P173 (mi_tb_e)
set_option maxRecDepth 20000 in
theorem ms_rs113_0 {h : sm_H} {d : Nat} {Q : Option mi_V → sm_H → Prop} {zk : Int} (hS : ab_Sh sx_sk h) (ok_zk : mi_in zk) (kon : ∀ h1, me_W [] h h1 → Q (some (.inl (mi_f h 13953))) h1) : me_E (d + 1) 173 113 [some (.inr (.inr 109)), some (.inl (zk))] [] h Q := mf_seg (mp_rs113_0 h d zk) (mi_tab_rs113_0) hS (mi_okL_c (trivial) (mi_okL_c (ok_zk) (mi_okL_e))) (mi_okS_e) (mi_al_e) (fun h1 W _ hst => mf_ret (M := (2, 1, sb_173)) rfl rfl rfl hst (mi_al_e) (kon h1 W))
set_option maxRecDepth 20000 in
theorem mt_rs113 {h : sm_H} {d : Nat} {Q : Option mi_V → sm_H → Prop} {zk : Int} (hS : ab_Sh sx_sk h) (ok_zk : mi_in zk) (k0 : (∀ h1, ab_Sh sx_sk h1 → ab_Fr [] h h1 → Q (some (.inl (mi_f h 13953))) h1)) : me_E (d + 1) 173 113 [some (.inr (.inr 109)), some (.inl (zk))] [] h Q := ms_rs113_0 hS ok_zk (fun h1 W => (k0) h1 W.1 (W.2.2.2.2.2 _ rfl))
set_option maxRecDepth 20000 in
theorem mp_rs128_0 (h : sm_H) (d : Nat) (zk : Int) : mj_path [(173, (2, 1, sb_173))] sx_sk h 2 [] (d + 1, 173, 128, [some (.inr (.inr 109)), some (.inl (zk))], [], [], []) = some ((d + 1, 173, 132, [some (.inr (.inr 109)), some (.inl (zk))], [.inr (.inl (Int64.ofNat 2317137683982345573)), .inr (.inr 109)], [], []), []) := rfl
theorem mi_tab_rs128_0 : ∀ e ∈ ([(173, (2, 1, sb_173))] : mi_T), sc_P e.1 = some e.2 := mi_tb mi_P173 (mi_tb_e)
set_option maxRecDepth 20000 in
theorem ms_rs128_0 {h : sm_H} {d : Nat} {Q : Option mi_V → sm_H → Prop} {zk : Int} (hS : ab_Sh sx_sk h) (ok_zk : mi_in zk) (kon : ∀ h1, me_W [] h h1 → ∃ Q1, me_E (d + 0) 174 0 (mi_entry 5 [.inr (.inr 109), .inr (.inl (Int64.ofNat 2317137683982345573))]) [] h1 Q1 ∧ ∀ w h2, (∀ x, w = some x → mi_ok x) → Q1 w h2 → me_E (d + 1) 173 135 [some (.inr (.inr 109)), some (.inl (zk))] (mi_back w []) h2 Q) : me_E (d + 1) 173 128 [some (.inr (.inr 109)), some (.inl (zk))] [] h Q := mf_seg (mp_rs128_0 h d zk) (mi_tab_rs128_0) hS (mi_okL_c (trivial) (mi_okL_c (ok_zk) (mi_okL_e))) (mi_okS_e) (mi_al_e) (fun h1 W _ hst => let ⟨_, k1, k2⟩ := kon h1 W; mf_call (M := (2, 1, sb_173)) (M' := (5, 0, sb_174)) rfl rfl rfl rfl (Nat.le_of_ble_eq_true rfl) (Nat.le_of_ble_eq_true rfl) W.1 k1 k2)
set_option maxRecDepth 20000 in
theorem mt_rs128 {h : sm_H} {d : Nat} {Q : Option mi_V → sm_H → Prop} {zk : Int} (hS : ab_Sh sx_sk h) (ok_zk : mi_in zk) (k0 : (∀ h1, ab_Sh sx_sk h1 → ab_Fr [] h h1 → ∃ Q1, me_E (d + 0) 174 0 (mi_entry 5 [.inr (.inr 109), .inr (.inl (Int64.ofNat 2317137683982345573))]) [] h1 Q1 ∧ ∀ w h2, (∀ x, w = some x → mi_ok x) → Q1 w h2 → me_E (d + 1) 173 135 [some (.inr (.inr 109)), some (.inl (zk))] (mi_back w []) h2 Q)) : me_E (d + 1) 173 128 [some (.inr (.inr 109)), some (.inl (zk))] [] h Q := ms_rs128_0 hS ok_zk (fun h1 W => (k0) h1 W.1 (W.2.2.2.2.2 _ rfl))
set_option maxRecDepth 20000 in
theorem mp_rs135_0 (h : sm_H) (d : Nat) (zk : Int) : mj_path [(173, (2, 1, sb_173))] sx_sk h 2 [] (d + 1, 173, 135, [some (.inr (.inr 109)), some (.inl (zk))], [], [], []) = some ((d + 1, 173, 139, [some (.inr (.inr 109)), some (.inl (zk))], [.inr (.inl (Int64.ofNat 2963459953415580012)), .inr (.inr 109)], [], []), []) := rfl
theorem mi_tab_rs135_0 : ∀ e ∈ ([(173, (2, 1, sb_173))] : mi_T), sc_P e.1 = some e.2 := mi_tb mi_P173 (mi_tb_e)
set_option maxRecDepth 20000 in
theorem ms_rs135_0 {h : sm_H} {d : Nat} {Q : Option mi_V → sm_H → Prop} {zk : Int} (hS : ab_Sh sx_sk h) (ok_zk : mi_in zk) (kon : ∀ h1, me_W [] h h1 → ∃ Q1, me_E (d + 0) 174 0 (mi_entry 5 [.inr (.inr 109), .inr (.inl (Int64.ofNat 2963459953415580012))]) [] h1 Q1 ∧ ∀ w h2, (∀ x, w = some x → mi_ok x) → Q1 w h2 → me_E (d + 1) 173 142 [some (.inr (.inr 109)), some (.inl (zk))] (mi_back w []) h2 Q) : me_E (d + 1) 173 135 [some (.inr (.inr 109)), some (.inl (zk))] [] h Q := mf_seg (mp_rs135_0 h d zk) (mi_tab_rs135_0) hS (mi_okL_c (trivial) (mi_okL_c (ok_zk) (mi_okL_e))) (mi_okS_e) (mi_al_e) (fun h1 W _ hst => let ⟨_, k1, k2⟩ := kon h1 W; mf_call (M := (2, 1, sb_173)) (M' := (5, 0, sb_174)) rfl rfl rfl rfl (Nat.le_of_ble_eq_true rfl) (Nat.le_of_ble_eq_true rfl) W.1 k1 k2)
set_option maxRecDepth 20000 in
theorem mt_rs135 {h : sm_H} {d : Nat} {Q : Option mi_V → sm_H → Prop} {zk : Int} (hS : ab_Sh sx_sk h) (ok_zk : mi_in zk) (k0 : (∀ h1, ab_Sh sx_sk h1 → ab_Fr [] h h1 → ∃ Q1, me_E (d + 0) 174 0 (mi_entry 5 [.inr (.inr 109), .inr (.inl (Int64.ofNat 2963459953415580012))]) [] h1 Q1 ∧ ∀ w h2, (∀ x, w = some x → mi_ok x) → Q1 w h2 → me_E (d + 1) 173 142 [some (.inr (.inr 109)), some (.inl (zk))] (mi_back w []) h2 Q)) : me_E (d + 1) 173 135 [some (.inr (.inr 109)), some (.inl (zk))] [] h Q := ms_rs135_0 hS ok_zk (fun h1 W => (k0) h1 W.1 (W.2.2.2.2.2 _ rfl))
set_option maxRecDepth 20000 in
theorem mp_rs142_0 (h : sm_H) (d : Nat) (zk : Int) : mj_path [(173, (2, 1, sb_173))] sx_sk h 2 [] (d + 1, 173, 142, [some (.inr (.inr 109)), some (.inl (zk))], [], [], []) = some ((d + 1, 173, 146, [some (.inr (.inr 109)), some (.inl (zk))], [.inr (.inl (Int64.ofNat 7791345429930713130)), .inr (.inr 109)], [], []), []) := rfl
theorem mi_tab_rs142_0 : ∀ e ∈ ([(173, (2, 1, sb_173))] : mi_T), sc_P e.1 = some e.2 := mi_tb mi_P173 (mi_tb_e)
set_option maxRecDepth 20000 in
theorem ms_rs142_0 {h : sm_H} {d : Nat} {Q : Option mi_V → sm_H → Prop} {zk : Int} (hS : ab_Sh sx_sk h) (ok_zk : mi_in zk) (kon : ∀ h1, me_W [] h h1 → ∃ Q1, me_E (d + 0) 174 0 (mi_entry 5 [.inr (.inr 109), .inr (.inl (Int64.ofNat 7791345429930713130))]) [] h1 Q1 ∧ ∀ w h2, (∀ x, w = some x → mi_ok x) → Q1 w h2 → me_E (d + 1) 173 149 [some (.inr (.inr 109)), some (.inl (zk))] (mi_back w []) h2 Q) : me_E (d + 1) 173 142 [some (.inr (.inr 109)), some (.inl (zk))] [] h Q := mf_seg (mp_rs142_0 h d zk) (mi_tab_rs142_0) hS (mi_okL_c (trivial) (mi_okL_c (ok_zk) (mi_okL_e))) (mi_okS_e) (mi_al_e) (fun h1 W _ hst => let ⟨_, k1, k2⟩ := kon h1 W; mf_call (M := (2, 1, sb_173)) (M' := (5, 0, sb_174)) rfl rfl rfl rfl (Nat.le_of_ble_eq_true rfl) (Nat.le_of_ble_eq_true rfl) W.1 k1 k2)
set_option maxRecDepth 20000 in
theorem mt_rs142 {h : sm_H} {d : Nat} {Q : Option mi_V → sm_H → Prop} {zk : Int} (hS : ab_Sh sx_sk h) (ok_zk : mi_in zk) (k0 : (∀ h1, ab_Sh sx_sk h1 → ab_Fr [] h h1 → ∃ Q1, me_E (d + 0) 174 0 (mi_entry 5 [.inr (.inr 109), .inr (.inl (Int64.ofNat 7791345429930713130))]) [] h1 Q1 ∧ ∀ w h2, (∀ x, w = some x → mi_ok x) → Q1 w h2 → me_E (d + 1) 173 149 [some (.inr (.inr 109)), some (.inl (zk))] (mi_back w []) h2 Q)) : me_E (d + 1) 173 142 [some (.inr (.inr 109)), some (.inl (zk))] [] h Q := ms_rs142_0 hS ok_zk (fun h1 W => (k0) h1 W.1 (W.2.2.2.2.2 _ rfl))
set_option maxRecDepth 20000 in
theorem mp_rs149_0 (h : sm_H) (d : Nat) (zk : Int) : mj_path [(173, (2, 1, sb_173))] sx_sk h 2 [] (d + 1, 173, 149, [some (.inr (.inr 109)), some (.inl (zk))], [], [], []) = some ((d + 1, 173, 153, [some (.inr (.inr 109)), some (.inl (zk))], [.inr (.inl (Int64.ofNat 4260542854493204073)), .inr (.inr 109)], [], []), []) := rfl
theorem mi_tab_rs149_0 : ∀ e ∈ ([(173, (2, 1, sb_173))] : mi_T), sc_P e.1 = some e.2 := mi_tb mi_P173 (mi_tb_e)
set_option maxRecDepth 20000 in
theorem ms_rs149_0 {h : sm_H} {d : Nat} {Q : Option mi_V → sm_H → Prop} {zk : Int} (hS : ab_Sh sx_sk h) (ok_zk : mi_in zk) (kon : ∀ h1, me_W [] h h1 → ∃ Q1, me_E (d + 0) 174 0 (mi_entry 5 [.inr (.inr 109), .inr (.inl (Int64.ofNat 4260542854493204073))]) [] h1 Q1 ∧ ∀ w h2, (∀ x, w = some x → mi_ok x) → Q1 w h2 → me_E (d + 1) 173 156 [some (.inr (.inr 109)), some (.inl (zk))] (mi_back w []) h2 Q) : me_E (d + 1) 173 149 [some (.inr (.inr 109)), some (.inl (zk))] [] h Q := mf_seg (mp_rs149_0 h d zk) (mi_tab_rs149_0) hS (mi_okL_c (trivial) (mi_okL_c (ok_zk) (mi_okL_e))) (mi_okS_e) (mi_al_e) (fun h1 W _ hst => let ⟨_, k1, k2⟩ := kon h1 W; mf_call (M := (2, 1, sb_173)) (M' := (5, 0, sb_174)) rfl rfl rfl rfl (Nat.le_of_ble_eq_true rfl) (Nat.le_of_ble_eq_true rfl) W.1 k1 k2)
set_option maxRecDepth 20000 in
theorem mt_rs149 {h : sm_H} {d : Nat} {Q : Option mi_V → sm_H → Prop} {zk : Int} (hS : ab_Sh sx_sk h) (ok_zk : mi_in zk) (k0 : (∀ h1, ab_Sh sx_sk h1 → ab_Fr [] h h1 → ∃ Q1, me_E (d + 0) 174 0 (mi_entry 5 [.inr (.inr 109), .inr (.inl (Int64.ofNat 4260542854493204073))]) [] h1 Q1 ∧ ∀ w h2, (∀ x, w = some x → mi_ok x) → Q1 w h2 → me_E (d + 1) 173 156 [some (.inr (.inr 109)), some (.inl (zk))] (mi_back w []) h2 Q)) : me_E (d + 1) 173 149 [some (.inr (.inr 109)), some (.inl (zk))] [] h Q := ms_rs149_0 hS ok_zk (fun h1 W => (k0) h1 W.1 (W.2.2.2.2.2 _ rfl))
set_option maxRecDepth 20000 in
theorem mp_rs156_0 (h : sm_H) (d : Nat) (zk : Int) : mj_path [(173, (2, 1, sb_173))] sx_sk h 2 [] (d + 1, 173, 156, [some (.inr (.inr 109)), some (.inl (zk))], [], [], []) = some ((d + 1, 173, 160, [some (.inr (.inr 109)), some (.inl (zk))], [.inr (.inl (Int64.ofNat 7308253817175298826)), .inr (.inr 109)], [], []), []) := rfl
theorem mi_tab_rs156_0 : ∀ e ∈ ([(173, (2, 1, sb_173))] : mi_T), sc_P e.1 = some e.2 := mi_tb mi_P173 (mi_tb_e)
set_option maxRecDepth 20000 in
theorem ms_rs156_0 {h : sm_H} {d : Nat} {Q : Option mi_V → sm_H → Prop} {zk : Int} (hS : ab_Sh sx_sk h) (ok_zk : mi_in zk) (kon : ∀ h1, me_W [] h h1 → ∃ Q1, me_E (d + 0) 174 0 (mi_entry 5 [.inr (.inr 109), .inr (.inl (Int64.ofNat 7308253817175298826))]) [] h1 Q1 ∧ ∀ w h2, (∀ x, w = some x → mi_ok x) → Q1 w h2 → me_E (d + 1) 173 163 [some (.inr (.inr 109)), some (.inl (zk))] (mi_back w []) h2 Q) : me_E (d + 1) 173 156 [some (.inr (.inr 109)), some (.inl (zk))] [] h Q := mf_seg (mp_rs156_0 h d zk) (mi_tab_rs156_0) hS (mi_okL_c (trivial) (mi_okL_c (ok_zk) (mi_okL_e))) (mi_okS_e) (mi_al_e) (fun h1 W _ hst => let ⟨_, k1, k2⟩ := kon h1 W; mf_call (M := (2, 1, sb_173)) (M' := (5, 0, sb_174)) rfl rfl rfl rfl (Nat.le_of_ble_eq_true rfl) (Nat.le_of_ble_eq_true rfl) W.1 k1 k2)
set_option maxRecDepth 20000 in
theorem mt_rs156 {h : sm_H} {d : Nat} {Q : Option mi_V → sm_H → Prop} {zk : Int} (hS : ab_Sh sx_sk h) (ok_zk : mi_in zk) (k0 : (∀ h1, ab_Sh sx_sk h1 → ab_Fr [] h h1 → ∃ Q1, me_E (d + 0) 174 0 (mi_entry 5 [.inr (.inr 109), .inr (.inl (Int64.ofNat 7308253817175298826))]) [] h1 Q1 ∧ ∀ w h2, (∀ x, w = some x → mi_ok x) → Q1 w h2 → me_E (d + 1) 173 163 [some (.inr (.inr 109)), some (.inl (zk))] (mi_back w []) h2 Q)) : me_E (d + 1) 173 156 [some (.inr (.inr 109)), some (.inl (zk))] [] h Q := ms_rs156_0 hS ok_zk (fun h1 W => (k0) h1 W.1 (W.2.2.2.2.2 _ rfl))
set_option maxRecDepth 20000 in
theorem mp_rs163_0 (h : sm_H) (d : Nat) (zk : Int) : mj_path [(173, (2, 1, sb_173))] sx_sk h 2 [] (d + 1, 173, 163, [some (.inr (.inr 109)), some (.inl (zk))], [], [], []) = some ((d + 1, 173, 167, [some (.inr (.inr 109)), some (.inl (zk))], [.inr (.inl (Int64.ofNat 2334392247088325236)), .inr (.inr 109)], [], []), []) := rfl
theorem mi_tab_rs163_0 : ∀ e ∈ ([(173, (2, 1, sb_173))] : mi_T), sc_P e.1 = some e.2 := mi_tb mi_P173 (mi_tb_e)
set_option maxRecDepth 20000 in
theorem ms_rs163_0 {h : sm_H} {d : Nat} {Q : Option mi_V → sm_H → Prop} {zk : Int} (hS : ab_Sh sx_sk h) (ok_zk : mi_in zk) (kon : ∀ h1, me_W [] h h1 → ∃ Q1, me_E (d + 0) 174 0 (mi_entry 5 [.inr (.inr 109), .inr (.inl (Int64.ofNat 2334392247088325236))]) [] h1 Q1 ∧ ∀ w h2, (∀ x, w = some x → mi_ok x) → Q1 w h2 → me_E (d + 1) 173 170 [some (.inr (.inr 109)), some (.inl (zk))] (mi_back w []) h2 Q) : me_E (d + 1) 173 163 [some (.inr (.inr 109)), some (.inl (zk))] [] h Q := mf_seg (mp_rs163_0 h d zk) (mi_tab_rs163_0) hS (mi_okL_c (trivial) (mi_okL_c (ok_zk) (mi_okL_e))) (mi_okS_e) (mi_al_e) (fun h1 W _ hst => let ⟨_, k1, k2⟩ := kon h1 W; mf_call (M := (2, 1, sb_173)) (M' := (5, 0, sb_174)) rfl rfl rfl rfl (Nat.le_of_ble_eq_true rfl) (Nat.le_of_ble_eq_true rfl) W.1 k1 k2)
set_option maxRecDepth 20000 in
theorem mt_rs163 {h : sm_H} {d : Nat} {Q : Option mi_V → sm_H → Prop} {zk : Int} (hS : ab_Sh sx_sk h) (ok_zk : mi_in zk) (k0 : (∀ h1, ab_Sh sx_sk h1 → ab_Fr [] h h1 → ∃ Q1, me_E (d + 0) 174 0 (mi_entry 5 [.inr (.inr 109), .inr (.inl (Int64.ofNat 2334392247088325236))]) [] h1 Q1 ∧ ∀ w h2, (∀ x, w = some x → mi_ok x) → Q1 w h2 → me_E (d + 1) 173 170 [some (.inr (.inr 109)), some (.inl (zk))] (mi_back w []) h2 Q)) : me_E (d + 1) 173 163 [some (.inr (.inr 109)), some (.inl (zk))] [] h Q := ms_rs163_0 hS ok_zk (fun h1 W => (k0) h1 W.1 (W.2.2.2.2.2 _ rfl))
set_option maxRecDepth 20000 in
theorem mp_rs170_0 (h : sm_H) (d : Nat) (zk : Int) : mj_path [(173, (2, 1, sb_173))] sx_sk h 2 [] (d + 1, 173, 170, [some (.inr (.inr 109)), some (.inl (zk))], [], [], []) = some ((d + 1, 173, 174, [some (.inr (.inr 109)), some (.inl (zk))], [.inr (.inl (Int64.ofNat 4406526406190787682)), .inr (.inr 109)], [], []), []) := rfl
theorem mi_tab_rs170_0 : ∀ e ∈ ([(173, (2, 1, sb_173))] : mi_T), sc_P e.1 = some e.2 := mi_tb mi_P173 (mi_tb_e)
set_option maxRecDepth 20000 in
theorem ms_rs170_0 {h : sm_H} {d : Nat} {Q : Option mi_V → sm_H → Prop} {zk : Int} (hS : ab_Sh sx_sk h) (ok_zk : mi_in zk) (kon : ∀ h1, me_W [] h h1 → ∃ Q1, me_E (d + 0) 174 0 (mi_entry 5 [.inr (.inr 109), .inr (.inl (Int64.ofNat 4406526406190787682))]) [] h1 Q1 ∧ ∀ w h2, (∀ x, w = some x → mi_ok x) → Q1 w h2 → me_E (d + 1) 173 177 [some (.inr (.inr 109)), some (.inl (zk))] (mi_back w []) h2 Q) : me_E (d + 1) 173 170 [some (.inr (.inr 109)), some (.inl (zk))] [] h Q := mf_seg (mp_rs170_0 h d zk) (mi_tab_rs170_0) hS (mi_okL_c (trivial) (mi_okL_c (ok_zk) (mi_okL_e))) (mi_okS_e) (mi_al_e) (fun h1 W _ hst => let ⟨_, k1, k2⟩ := kon h1 W; mf_call (M := (2, 1, sb_173)) (M' := (5, 0, sb_174)) rfl rfl rfl rfl (Nat.le_of_ble_eq_true rfl) (Nat.le_of_ble_eq_true rfl) W.1 k1 k2)
set_option maxRecDepth 20000 in
theorem mt_rs170 {h : sm_H} {d : Nat} {Q : Option mi_V → sm_H → Prop} {zk : Int} (hS : ab_Sh sx_sk h) (ok_zk : mi_in zk) (k0 : (∀ h1, ab_Sh sx_sk h1 → ab_Fr [] h h1 → ∃ Q1, me_E (d + 0) 174 0 (mi_entry 5 [.inr (.inr 109), .inr (.inl (Int64.ofNat 4406526406190787682))]) [] h1 Q1 ∧ ∀ w h2, (∀ x, w = some x → mi_ok x) → Q1 w h2 → me_E (d + 1) 173 177 [some (.inr (.inr 109)), some (.inl (zk))] (mi_back w []) h2 Q)) : me_E (d + 1) 173 170 [some (.inr (.inr 109)), some (.inl (zk))] [] h Q := ms_rs170_0 hS ok_zk (fun h1 W => (k0) h1 W.1 (W.2.2.2.2.2 _ rfl))
set_option maxRecDepth 20000 in
theorem mp_rs177_0 (h : sm_H) (d : Nat) (zk : Int) : mj_path [(173, (2, 1, sb_173))] sx_sk h 2 [] (d + 1, 173, 177, [some (.inr (.inr 109)), some (.inl (zk))], [], [], []) = some ((d + 1, 173, 181, [some (.inr (.inr 109)), some (.inl (zk))], [.inr (.inl (Int64.ofNat 6206078408341611040)), .inr (.inr 109)], [], []), []) := rfl
theorem mi_tab_rs177_0 : ∀ e ∈ ([(173, (2, 1, sb_173))] : mi_T), sc_P e.1 = some e.2 := mi_tb mi_P173 (mi_tb_e)
set_option maxRecDepth 20000 in
theorem ms_rs177_0 {h : sm_H} {d : Nat} {Q : Option mi_V → sm_H → Prop} {zk : Int} (hS : ab_Sh sx_sk h) (ok_zk : mi_in zk) (kon : ∀ h1, me_W [] h h1 → ∃ Q1, me_E (d + 0) 174 0 (mi_entry 5 [.inr (.inr 109), .inr (.inl (Int64.ofNat 6206078408341611040))]) [] h1 Q1 ∧ ∀ w h2, (∀ x, w = some x → mi_ok x) → Q1 w h2 → me_E (d + 1) 173 184 [some (.inr (.inr 109)), some (.inl (zk))] (mi_back w []) h2 Q) : me_E (d + 1) 173 177 [some (.inr (.inr 109)), some (.inl (zk))] [] h Q := mf_seg (mp_rs177_0 h d zk) (mi_tab_rs177_0) hS (mi_okL_c (trivial) (mi_okL_c (ok_zk) (mi_okL_e))) (mi_okS_e) (mi_al_e) (fun h1 W _ hst => let ⟨_, k1, k2⟩ := kon h1 W; mf_call (M := (2, 1, sb_173)) (M' := (5, 0, sb_174)) rfl rfl rfl rfl (Nat.le_of_ble_eq_true rfl) (Nat.le_of_ble_eq_true rfl) W.1 k1 k2)
set_option maxRecDepth 20000 in
theorem mt_rs177 {h : sm_H} {d : Nat} {Q : Option mi_V → sm_H → Prop} {zk : Int} (hS : ab_Sh sx_sk h) (ok_zk : mi_in zk) (k0 : (∀ h1, ab_Sh sx_sk h1 → ab_Fr [] h h1 → ∃ Q1, me_E (d + 0) 174 0 (mi_entry 5 [.inr (.inr 109), .inr (.inl (Int64.ofNat 6206078408341611040))]) [] h1 Q1 ∧ ∀ w h2, (∀ x, w = some x → mi_ok x) → Q1 w h2 → me_E (d + 1) 173 184 [some (.inr (.inr 109)), some (.inl (zk))] (mi_back w []) h2 Q)) : me_E (d + 1) 173 177 [some (.inr (.inr 109)), some (.inl (zk))] [] h Q := ms_rs177_0 hS ok_zk (fun h1 W => (k0) h1 W.1 (W.2.2.2.2.2 _ rfl))
set_option maxRecDepth 20000 in
theorem mp_rs184_0 (h : sm_H) (d : Nat) (zk : Int) : mj_path [(173, (2, 1, sb_173))] sx_sk h 2 [] (d + 1, 173, 184, [some (.inr (.inr 109)), some (.inl (zk))], [], [], []) = some ((d + 1, 173, 188, [some (.inr (.inr 109)), some (.inl (zk))], [.inr (.inl (Int64.ofNat 7215365270489736992)), .inr (.inr 109)], [], []), []) := rfl
theorem mi_tab_rs184_0 : ∀ e ∈ ([(173, (2, 1, sb_173))] : mi_T), sc_P e.1 = some e.2 := mi_tb mi_P173 (mi_tb_e)
set_option maxRecDepth 20000 in
theorem ms_rs184_0 {h : sm_H} {d : Nat} {Q : Option mi_V → sm_H → Prop} {zk : Int} (hS : ab_Sh sx_sk h) (ok_zk : mi_in zk) (kon : ∀ h1, me_W [] h h1 → ∃ Q1, me_E (d + 0) 174 0 (mi_entry 5 [.inr (.inr 109), .inr (.inl (Int64.ofNat 7215365270489736992))]) [] h1 Q1 ∧ ∀ w h2, (∀ x, w = some x → mi_ok x) → Q1 w h2 → me_E (d + 1) 173 191 [some (.inr (.inr 109)), some (.inl (zk))] (mi_back w []) h2 Q) : me_E (d + 1) 173 184 [some (.inr (.inr 109)), some (.inl (zk))] [] h Q := mf_seg (mp_rs184_0 h d zk) (mi_tab_rs184_0) hS (mi_okL_c (trivial) (mi_okL_c (ok_zk) (mi_okL_e))) (mi_okS_e) (mi_al_e) (fun h1 W _ hst => let ⟨_, k1, k2⟩ := kon h1 W; mf_call (M := (2, 1, sb_173)) (M' := (5, 0, sb_174)) rfl rfl rfl rfl (Nat.le_of_ble_eq_true rfl) (Nat.le_of_ble_eq_true rfl) W.1 k1 k2)
set_option maxRecDepth 20000 in
theorem mt_rs184 {h : sm_H} {d : Nat} {Q : Option mi_V → sm_H → Prop} {zk : Int} (hS : ab_Sh sx_sk h) (ok_zk : mi_in zk) (k0 : (∀ h1, ab_Sh sx_sk h1 → ab_Fr [] h h1 → ∃ Q1, me_E (d + 0) 174 0 (mi_entry 5 [.inr (.inr 109), .inr (.inl (Int64.ofNat 7215365270489736992))]) [] h1 Q1 ∧ ∀ w h2, (∀ x, w = some x → mi_ok x) → Q1 w h2 → me_E (d + 1) 173 191 [some (.inr (.inr 109)), some (.inl (zk))] (mi_back w []) h2 Q)) : me_E (d + 1) 173 184 [some (.inr (.inr 109)), some (.inl (zk))] [] h Q := ms_rs184_0 hS ok_zk (fun h1 W => (k0) h1 W.1 (W.2.2.2.2.2 _ rfl))
set_option maxRecDepth 20000 in
theorem mp_rs191_0 (h : sm_H) (d : Nat) (zk : Int) : mj_path [(173, (2, 1, sb_173))] sx_sk h 2 [] (d + 1, 173, 191, [some (.inr (.inr 109)), some (.inl (zk))], [], [], []) = some ((d + 1, 173, 195, [some (.inr (.inr 109)), some (.inl (zk))], [.inr (.inl (Int64.ofNat 2459101874769371759)), .inr (.inr 109)], [], []), []) := rfl
theorem mi_tab_rs191_0 : ∀ e ∈ ([(173, (2, 1, sb_173))] : mi_T), sc_P e.1 = some e.2 := mi_tb mi_P173 (mi_tb_e)
set_option maxRecDepth 20000 in
theorem ms_rs191_0 {h : sm_H} {d : Nat} {Q : Option mi_V → sm_H → Prop} {zk : Int} (hS : ab_Sh sx_sk h) (ok_zk : mi_in zk) (kon : ∀ h1, me_W [] h h1 → ∃ Q1, me_E (d + 0) 174 0 (mi_entry 5 [.inr (.inr 109), .inr (.inl (Int64.ofNat 2459101874769371759))]) [] h1 Q1 ∧ ∀ w h2, (∀ x, w = some x → mi_ok x) → Q1 w h2 → me_E (d + 1) 173 198 [some (.inr (.inr 109)), some (.inl (zk))] (mi_back w []) h2 Q) : me_E (d + 1) 173 191 [some (.inr (.inr 109)), some (.inl (zk))] [] h Q := mf_seg (mp_rs191_0 h d zk) (mi_tab_rs191_0) hS (mi_okL_c (trivial) (mi_okL_c (ok_zk) (mi_okL_e))) (mi_okS_e) (mi_al_e) (fun h1 W _ hst => let ⟨_, k1, k2⟩ := kon h1 W; mf_call (M := (2, 1, sb_173)) (M' := (5, 0, sb_174)) rfl rfl rfl rfl (Nat.le_of_ble_eq_true rfl) (Nat.le_of_ble_eq_true rfl) W.1 k1 k2)
set_option maxRecDepth 20000 in
theorem mt_rs191 {h : sm_H} {d : Nat} {Q : Option mi_V → sm_H → Prop} {zk : Int} (hS : ab_Sh sx_sk h) (ok_zk : mi_in zk) (k0 : (∀ h1, ab_Sh sx_sk h1 → ab_Fr [] h h1 → ∃ Q1, me_E (d + 0) 174 0 (mi_entry 5 [.inr (.inr 109), .inr (.inl (Int64.ofNat 2459101874769371759))]) [] h1 Q1 ∧ ∀ w h2, (∀ x, w = some x → mi_ok x) → Q1 w h2 → me_E (d + 1) 173 198 [some (.inr (.inr 109)), some (.inl (zk))] (mi_back w []) h2 Q)) : me_E (d + 1) 173 191 [some (.inr (.inr 109)), some (.inl (zk))] [] h Q := ms_rs191_0 hS ok_zk (fun h1 W => (k0) h1 W.1 (W.2.2.2.2.2 _ rfl))
set_option maxRecDepth 20000 in
theorem mp_rs198_0 (h : sm_H) (d : Nat) (zk : Int) : mj_path [(173, (2, 1, sb_173))] sx_sk h 2 [] (d + 1, 173, 198, [some (.inr (.inr 109)), some (.inl (zk))], [], [], []) = some ((d + 1, 173, 202, [some (.inr (.inr 109)), some (.inl (zk))], [.inr (.inl (Int64.ofNat 2819348062750930288)), .inr (.inr 109)], [], []), []) := rfl
theorem mi_tab_rs198_0 : ∀ e ∈ ([(173, (2, 1, sb_173))] : mi_T), sc_P e.1 = some e.2 := mi_tb mi_P173 (mi_tb_e)
set_option maxRecDepth 20000 in
theorem ms_rs198_0 {h : sm_H} {d : Nat} {Q : Option mi_V → sm_H → Prop} {zk : Int} (hS : ab_Sh sx_sk h) (ok_zk : mi_in zk) (kon : ∀ h1, me_W [] h h1 → ∃ Q1, me_E (d + 0) 174 0 (mi_entry 5 [.inr (.inr 109), .inr (.inl (Int64.ofNat 2819348062750930288))]) [] h1 Q1 ∧ ∀ w h2, (∀ x, w = some x → mi_ok x) → Q1 w h2 → me_E (d + 1) 173 205 [some (.inr (.inr 109)), some (.inl (zk))] (mi_back w []) h2 Q) : me_E (d + 1) 173 198 [some (.inr (.inr 109)), some (.inl (zk))] [] h Q := mf_seg (mp_rs198_0 h d zk) (mi_tab_rs198_0) hS (mi_okL_c (trivial) (mi_okL_c (ok_zk) (mi_okL_e))) (mi_okS_e) (mi_al_e) (fun h1 W _ hst => let ⟨_, k1, k2⟩ := kon h1 W; mf_call (M := (2, 1, sb_173)) (M' := (5, 0, sb_174)) rfl rfl rfl rfl (Nat.le_of_ble_eq_true rfl) (Nat.le_of_ble_eq_true rfl) W.1 k1 k2)
set_option maxRecDepth 20000 in
theorem mt_rs198 {h : sm_H} {d : Nat} {Q : Option mi_V → sm_H → Prop} {zk : Int} (hS : ab_Sh sx_sk h) (ok_zk : mi_in zk) (k0 : (∀ h1, ab_Sh sx_sk h1 → ab_Fr [] h h1 → ∃ Q1, me_E (d + 0) 174 0 (mi_entry 5 [.inr (.inr 109), .inr (.inl (Int64.ofNat 2819348062750930288))]) [] h1 Q1 ∧ ∀ w h2, (∀ x, w = some x → mi_ok x) → Q1 w h2 → me_E (d + 1) 173 205 [some (.inr (.inr 109)), some (.inl (zk))] (mi_back w []) h2 Q)) : me_E (d + 1) 173 198 [some (.inr (.inr 109)), some (.inl (zk))] [] h Q := ms_rs198_0 hS ok_zk (fun h1 W => (k0) h1 W.1 (W.2.2.2.2.2 _ rfl))
set_option maxRecDepth 20000 in
theorem mp_rs205_0 (h : sm_H) (d : Nat) (zk : Int) : mj_path [(173, (2, 1, sb_173))] sx_sk h 2 [] (d + 1, 173, 205, [some (.inr (.inr 109)), some (.inl (zk))], [], [], []) = some ((d + 1, 173, 209, [some (.inr (.inr 109)), some (.inl (zk))], [.inr (.inl (Int64.ofNat 2323048536703967291)), .inr (.inr 109)], [], []), []) := rfl
theorem mi_tab_rs205_0 : ∀ e ∈ ([(173, (2, 1, sb_173))] : mi_T), sc_P e.1 = some e.2 := mi_tb mi_P173 (mi_tb_e)
set_option maxRecDepth 20000 in
theorem ms_rs205_0 {h : sm_H} {d : Nat} {Q : Option mi_V → sm_H → Prop} {zk : Int} (hS : ab_Sh sx_sk h) (ok_zk : mi_in zk) (kon : ∀ h1, me_W [] h h1 → ∃ Q1, me_E (d + 0) 174 0 (mi_entry 5 [.inr (.inr 109), .inr (.inl (Int64.ofNat 2323048536703967291))]) [] h1 Q1 ∧ ∀ w h2, (∀ x, w = some x → mi_ok x) → Q1 w h2 → me_E (d + 1) 173 212 [some (.inr (.inr 109)), some (.inl (zk))] (mi_back w []) h2 Q) : me_E (d + 1) 173 205 [some (.inr (.inr 109)), some (.inl (zk))] [] h Q := mf_seg (mp_rs205_0 h d zk) (mi_tab_rs205_0) hS (mi_okL_c (trivial) (mi_okL_c (ok_zk) (mi_okL_e))) (mi_okS_e) (mi_al_e) (fun h1 W _ hst => let ⟨_, k1, k2⟩ := kon h1 W; mf_call (M := (2, 1, sb_173)) (M' := (5, 0, sb_174)) rfl rfl rfl rfl (Nat.le_of_ble_eq_true rfl) (Nat.le_of_ble_eq_true rfl) W.1 k1 k2)
set_option maxRecDepth 20000 in
theorem mt_rs205 {h : sm_H} {d : Nat} {Q : Option mi_V → sm_H → Prop} {zk : Int} (hS : ab_Sh sx_sk h) (ok_zk : mi_in zk) (k0 : (∀ h1, ab_Sh sx_sk h1 → ab_Fr [] h h1 → ∃ Q1, me_E (d + 0) 174 0 (mi_entry 5 [.inr (.inr 109), .inr (.inl (Int64.ofNat 2323048536703967291))]) [] h1 Q1 ∧ ∀ w h2, (∀ x, w = some x → mi_ok x) → Q1 w h2 → me_E (d + 1) 173 212 [some (.inr (.inr 109)), some (.inl (zk))] (mi_back w []) h2 Q)) : me_E (d + 1) 173 205 [some (.inr (.inr 109)), some (.inl (zk))] [] h Q := ms_rs205_0 hS ok_zk (fun h1 W => (k0) h1 W.1 (W.2.2.2.2.2 _ rfl))
set_option maxRecDepth 20000 in
theorem mp_rs212_0 (h : sm_H) (d : Nat) (zk : Int) : mj_path [(173, (2, 1, sb_173))] sx_sk h 2 [] (d + 1, 173, 212, [some (.inr (.inr 109)), some (.inl (zk))], [], [], []) = some ((d + 1, 173, 216, [some (.inr (.inr 109)), some (.inl (zk))], [.inr (.inl (Int64.ofNat 7935479022009278830)), .inr (.inr 109)], [], []), []) := rfl
theorem mi_tab_rs212_0 : ∀ e ∈ ([(173, (2, 1, sb_173))] : mi_T), sc_P e.1 = some e.2 := mi_tb mi_P173 (mi_tb_e)
set_option maxRecDepth 20000 in
theorem ms_rs212_0 {h : sm_H} {d : Nat} {Q : Option mi_V → sm_H → Prop} {zk : Int} (hS : ab_Sh sx_sk h) (ok_zk : mi_in zk) (kon : ∀ h1, me_W [] h h1 → ∃ Q1, me_E (d + 0) 174 0 (mi_entry 5 [.inr (.inr 109), .inr (.inl (Int64.ofNat 7935479022009278830))]) [] h1 Q1 ∧ ∀ w h2, (∀ x, w = some x → mi_ok x) → Q1 w h2 → me_E (d + 1) 173 219 [some (.inr (.inr 109)), some (.inl (zk))] (mi_back w []) h2 Q) : me_E (d + 1) 173 212 [some (.inr (.inr 109)), some (.inl (zk))] [] h Q := mf_seg (mp_rs212_0 h d zk) (mi_tab_rs212_0) hS (mi_okL_c (trivial) (mi_okL_c (ok_zk) (mi_okL_e))) (mi_okS_e) (mi_al_e) (fun h1 W _ hst => let ⟨_, k1, k2⟩ := kon h1 W; mf_call (M := (2, 1, sb_173)) (M' := (5, 0, sb_174)) rfl rfl rfl rfl (Nat.le_of_ble_eq_true rfl) (Nat.le_of_ble_eq_true rfl) W.1 k1 k2)
set_option maxRecDepth 20000 in
theorem mt_rs212 {h : sm_H} {d : Nat} {Q : Option mi_V → sm_H → Prop} {zk : Int} (hS : ab_Sh sx_sk h) (ok_zk : mi_in zk) (k0 : (∀ h1, ab_Sh sx_sk h1 → ab_Fr [] h h1 → ∃ Q1, me_E (d + 0) 174 0 (mi_entry 5 [.inr (.inr 109), .inr (.inl (Int64.ofNat 7935479022009278830))]) [] h1 Q1 ∧ ∀ w h2, (∀ x, w = some x → mi_ok x) → Q1 w h2 → me_E (d + 1) 173 219 [some (.inr (.inr 109)), some (.inl (zk))] (mi_back w []) h2 Q)) : me_E (d + 1) 173 212 [some (.inr (.inr 109)), some (.inl (zk))] [] h Q := ms_rs212_0 hS ok_zk (fun h1 W => (k0) h1 W.1 (W.2.2.2.2.2 _ rfl))
set_option maxRecDepth 20000 in
theorem mp_rs219_0 (h : sm_H) (d : Nat) (zk : Int) : mj_path [(173, (2, 1, sb_173))] sx_sk h 2 [] (d + 1, 173, 219, [some (.inr (.inr 109)), some (.inl (zk))], [], [], []) = some ((d + 1, 173, 223, [some (.inr (.inr 109)), some (.inl (zk))], [.inr (.inl (Int64.ofNat 2317982108911562101)), .inr (.inr 109)], [], []), []) := rfl
theorem mi_tab_rs219_0 : ∀ e ∈ ([(173, (2, 1, sb_173))] : mi_T), sc_P e.1 = some e.2 := mi_tb mi_P173 (mi_tb_e)
set_option maxRecDepth 20000 in
theorem ms_rs219_0 {h : sm_H} {d : Nat} {Q : Option mi_V → sm_H → Prop} {zk : Int} (hS : ab_Sh sx_sk h) (ok_zk : mi_in zk) (kon : ∀ h1, me_W [] h h1 → ∃ Q1, me_E (d + 0) 174 0 (mi_entry 5 [.inr (.inr 109), .inr (.inl (Int64.ofNat 2317982108911562101))]) [] h1 Q1 ∧ ∀ w h2, (∀ x, w = some x → mi_ok x) → Q1 w h2 → me_E (d + 1) 173 226 [some (.inr (.inr 109)), some (.inl (zk))] (mi_back w []) h2 Q) : me_E (d + 1) 173 219 [some (.inr (.inr 109)), some (.inl (zk))] [] h Q := mf_seg (mp_rs219_0 h d zk) (mi_tab_rs219_0) hS (mi_okL_c (trivial) (mi_okL_c (ok_zk) (mi_okL_e))) (mi_okS_e) (mi_al_e) (fun h1 W _ hst => let ⟨_, k1, k2⟩ := kon h1 W; mf_call (M := (2, 1, sb_173)) (M' := (5, 0, sb_174)) rfl rfl rfl rfl (Nat.le_of_ble_eq_true rfl) (Nat.le_of_ble_eq_true rfl) W.1 k1 k2)
set_option maxRecDepth 20000 in
theorem mt_rs219 {h : sm_H} {d : Nat} {Q : Option mi_V → sm_H → Prop} {zk : Int} (hS : ab_Sh sx_sk h) (ok_zk : mi_in zk) (k0 : (∀ h1, ab_Sh sx_sk h1 → ab_Fr [] h h1 → ∃ Q1, me_E (d + 0) 174 0 (mi_entry 5 [.inr (.inr 109), .inr (.inl (Int64.ofNat 2317982108911562101))]) [] h1 Q1 ∧ ∀ w h2, (∀ x, w = some x → mi_ok x) → Q1 w h2 → me_E (d + 1) 173 226 [some (.inr (.inr 109)), some (.inl (zk))] (mi_back w []) h2 Q)) : me_E (d + 1) 173 219 [some (.inr (.inr 109)), some (.inl (zk))] [] h Q := ms_rs219_0 hS ok_zk (fun h1 W => (k0) h1 W.1 (W.2.2.2.2.2 _ rfl))
set_option maxRecDepth 20000 in
theorem mp_rs226_0 (h : sm_H) (d : Nat) (zk : Int) : mj_path [(173, (2, 1, sb_173))] sx_sk h 2 [] (d + 1, 173, 226, [some (.inr (.inr 109)), some (.inl (zk))], [], [], []) = some ((d + 1, 173, 230, [some (.inr (.inr 109)), some (.inl (zk))], [.inr (.inl (Int64.ofNat 6206009932588523569)), .inr (.inr 109)], [], []), []) := rfl
theorem mi_tab_rs226_0 : ∀ e ∈ ([(173, (2, 1, sb_173))] : mi_T), sc_P e.1 = some e.2 := mi_tb mi_P173 (mi_tb_e)
set_option maxRecDepth 20000 in
theorem ms_rs226_0 {h : sm_H} {d : Nat} {Q : Option mi_V → sm_H → Prop} {zk : Int} (hS : ab_Sh sx_sk h) (ok_zk : mi_in zk) (kon : ∀ h1, me_W [] h h1 → ∃ Q1, me_E (d + 0) 174 0 (mi_entry 5 [.inr (.inr 109), .inr (.inl (Int64.ofNat 6206009932588523569))]) [] h1 Q1 ∧ ∀ w h2, (∀ x, w = some x → mi_ok x) → Q1 w h2 → me_E (d + 1) 173 233 [some (.inr (.inr 109)), some (.inl (zk))] (mi_back w []) h2 Q) : me_E (d + 1) 173 226 [some (.inr (.inr 109)), some (.inl (zk))] [] h Q := mf_seg (mp_rs226_0 h d zk) (mi_tab_rs226_0) hS (mi_okL_c (trivial) (mi_okL_c (ok_zk) (mi_okL_e))) (mi_okS_e) (mi_al_e) (fun h1 W _ hst => let ⟨_, k1, k2⟩ := kon h1 W; mf_call (M := (2, 1, sb_173)) (M' := (5, 0, sb_174)) rfl rfl rfl rfl (Nat.le_of_ble_eq_true rfl) (Nat.le_of_ble_eq_true rfl) W.1 k1 k2)
set_option maxRecDepth 20000 in
theorem mt_rs226 {h : sm_H} {d : Nat} {Q : Option mi_V → sm_H → Prop} {zk : Int} (hS : ab_Sh sx_sk h) (ok_zk : mi_in zk) (k0 : (∀ h1, ab_Sh sx_sk h1 → ab_Fr [] h h1 → ∃ Q1, me_E (d + 0) 174 0 (mi_entry 5 [.inr (.inr 109), .inr (.inl (Int64.ofNat 6206009932588523569))]) [] h1 Q1 ∧ ∀ w h2, (∀ x, w = some x → mi_ok x) → Q1 w h2 → me_E (d + 1) 173 233 [some (.inr (.inr 109)), some (.inl (zk))] (mi_back w []) h2 Q)) : me_E (d + 1) 173 226 [some (.inr (.inr 109)), some (.inl (zk))] [] h Q := ms_rs226_0 hS ok_zk (fun h1 W => (k0) h1 W.1 (W.2.2.2.2.2 _ rfl))
set_option maxRecDepth 20000 in
theorem mp_rs233_0 (h : sm_H) (d : Nat) (zk : Int) : mj_path [(173, (2, 1, sb_173))] sx_sk h 2 [] (d + 1, 173, 233, [some (.inr (.inr 109)), some (.inl (zk))], [], [], []) = some ((d + 1, 173, 237, [some (.inr (.inr 109)), some (.inl (zk))], [.inr (.inl (Int64.ofNat 670496)), .inr (.inr 109)], [], []), []) := rfl
theorem mi_tab_rs233_0 : ∀ e ∈ ([(173, (2, 1, sb_173))] : mi_T), sc_P e.1 = some e.2 := mi_tb mi_P173 (mi_tb_e)
set_option maxRecDepth 20000 in
theorem ms_rs233_0 {h : sm_H} {d : Nat} {Q : Option mi_V → sm_H → Prop} {zk : Int} (hS : ab_Sh sx_sk h) (ok_zk : mi_in zk) (kon : ∀ h1, me_W [] h h1 → ∃ Q1, me_E (d + 0) 174 0 (mi_entry 5 [.inr (.inr 109), .inr (.inl (Int64.ofNat 670496))]) [] h1 Q1 ∧ ∀ w h2, (∀ x, w = some x → mi_ok x) → Q1 w h2 → me_E (d + 1) 173 240 [some (.inr (.inr 109)), some (.inl (zk))] (mi_back w []) h2 Q) : me_E (d + 1) 173 233 [some (.inr (.inr 109)), some (.inl (zk))] [] h Q := mf_seg (mp_rs233_0 h d zk) (mi_tab_rs233_0) hS (mi_okL_c (trivial) (mi_okL_c (ok_zk) (mi_okL_e))) (mi_okS_e) (mi_al_e) (fun h1 W _ hst => let ⟨_, k1, k2⟩ := kon h1 W; mf_call (M := (2, 1, sb_173)) (M' := (5, 0, sb_174)) rfl rfl rfl rfl (Nat.le_of_ble_eq_true rfl) (Nat.le_of_ble_eq_true rfl) W.1 k1 k2)
set_option maxRecDepth 20000 in
theorem mt_rs233 {h : sm_H} {d : Nat} {Q : Option mi_V → sm_H → Prop} {zk : Int} (hS : ab_Sh sx_sk h) (ok_zk : mi_in zk) (k0 : (∀ h1, ab_Sh sx_sk h1 → ab_Fr [] h h1 → ∃ Q1, me_E (d + 0) 174 0 (mi_entry 5 [.inr (.inr 109), .inr (.inl (Int64.ofNat 670496))]) [] h1 Q1 ∧ ∀ w h2, (∀ x, w = some x → mi_ok x) → Q1 w h2 → me_E (d + 1) 173 240 [some (.inr (.inr 109)), some (.inl (zk))] (mi_back w []) h2 Q)) : me_E (d + 1) 173 233 [some (.inr (.inr 109)), some (.inl (zk))] [] h Q := ms_rs233_0 hS ok_zk (fun h1 W => (k0) h1 W.1 (W.2.2.2.2.2 _ rfl))
set_option maxRecDepth 20000 in
theorem mp_rs240_0 (h : sm_H) (d : Nat) (zk : Int) : mj_path [(173, (2, 1, sb_173))] sx_sk h 3 [] (d + 1, 173, 240, [some (.inr (.inr 109)), some (.inl (zk))], [], [], []) = some ((d + 1, 173, 331, [some (.inr (.inr 109)), some (.inl (zk))], [.inl (mi_f h 13953)], [], []), []) := rfl
theorem mi_tab_rs240_0 : ∀ e ∈ ([(173, (2, 1, sb_173))] : mi_T), sc_P e.1 = some e.2 := mi_tb mi_P173 (mi_tb_e)
set_option maxRecDepth 20000 in
theorem ms_rs240_0 {h : sm_H} {d : Nat} {Q : Option mi_V → sm_H → Prop} {zk : Int} (hS : ab_Sh sx_sk h) (ok_zk : mi_in zk) (kon : ∀ h1, me_W [] h h1 → Q (some (.inl (mi_f h 13953))) h1) : me_E (d + 1) 173 240 [some (.inr (.inr 109)), some (.inl (zk))] [] h Q := mf_seg (mp_rs240_0 h d zk) (mi_tab_rs240_0) hS (mi_okL_c (trivial) (mi_okL_c (ok_zk) (mi_okL_e))) (mi_okS_e) (mi_al_e) (fun h1 W _ hst => mf_ret (M := (2, 1, sb_173)) rfl rfl rfl hst (mi_al_e) (kon h1 W))
set_option maxRecDepth 20000 in
theorem mt_rs240 {h : sm_H} {d : Nat} {Q : Option mi_V → sm_H → Prop} {zk : Int} (hS : ab_Sh sx_sk h) (ok_zk : mi_in zk) (k0 : (∀ h1, ab_Sh sx_sk h1 → ab_Fr [] h h1 → Q (some (.inl (mi_f h 13953))) h1)) : me_E (d + 1) 173 240 [some (.inr (.inr 109)), some (.inl (zk))] [] h Q := ms_rs240_0 hS ok_zk (fun h1 W => (k0) h1 W.1 (W.2.2.2.2.2 _ rfl))
set_option maxRecDepth 20000 in
theorem mp_rs250_0 (h : sm_H) (d : Nat) (zk : Int) : mj_path [(173, (2, 1, sb_173))] sx_sk h 2 [] (d + 1, 173, 250, [some (.inr (.inr 109)), some (.inl (zk))], [], [], []) = some ((d + 1, 173, 254, [some (.inr (.inr 109)), some (.inl (zk))], [.inr (.inl (Int64.ofNat 2318270927254606368)), .inr (.inr 109)], [], []), []) := rfl
theorem mi_tab_rs250_0 : ∀ e ∈ ([(173, (2, 1, sb_173))] : mi_T), sc_P e.1 = some e.2 := mi_tb mi_P173 (mi_tb_e)
set_option maxRecDepth 20000 in
theorem ms_rs250_0 {h : sm_H} {d : Nat} {Q : Option mi_V → sm_H → Prop} {zk : Int} (hS : ab_Sh sx_sk h) (ok_zk : mi_in zk) (kon : ∀ h1, me_W [] h h1 → ∃ Q1, me_E (d + 0) 174 0 (mi_entry 5 [.inr (.inr 109), .inr (.inl (Int64.ofNat 2318270927254606368))]) [] h1 Q1 ∧ ∀ w h2, (∀ x, w = some x → mi_ok x) → Q1 w h2 → me_E (d + 1) 173 257 [some (.inr (.inr 109)), some (.inl (zk))] (mi_back w []) h2 Q) : me_E (d + 1) 173 250 [some (.inr (.inr 109)), some (.inl (zk))] [] h Q := mf_seg (mp_rs250_0 h d zk) (mi_tab_rs250_0) hS (mi_okL_c (trivial) (mi_okL_c (ok_zk) (mi_okL_e))) (mi_okS_e) (mi_al_e) (fun h1 W _ hst => let ⟨_, k1, k2⟩ := kon h1 W; mf_call (M := (2, 1, sb_173)) (M' := (5, 0, sb_174)) rfl rfl rfl rfl (Nat.le_of_ble_eq_true rfl) (Nat.le_of_ble_eq_true rfl) W.1 k1 k2)
set_option maxRecDepth 20000 in
theorem mt_rs250 {h : sm_H} {d : Nat} {Q : Option mi_V → sm_H → Prop} {zk : Int} (hS : ab_Sh sx_sk h) (ok_zk : mi_in zk) (k0 : (∀ h1, ab_Sh sx_sk h1 → ab_Fr [] h h1 → ∃ Q1, me_E (d + 0) 174 0 (mi_entry 5 [.inr (.inr 109), .inr (.inl (Int64.ofNat 2318270927254606368))]) [] h1 Q1 ∧ ∀ w h2, (∀ x, w = some x → mi_ok x) → Q1 w h2 → me_E (d + 1) 173 257 [some (.inr (.inr 109)), some (.inl (zk))] (mi_back w []) h2 Q)) : me_E (d + 1) 173 250 [some (.inr (.inr 109)), some (.inl (zk))] [] h Q := ms_rs250_0 hS ok_zk (fun h1 W => (k0) h1 W.1 (W.2.2.2.2.2 _ rfl))
set_option maxRecDepth 20000 in
theorem mp_rs257_0 (h : sm_H) (d : Nat) (zk : Int) : mj_path [(173, (2, 1, sb_173))] sx_sk h 2 [] (d + 1, 173, 257, [some (.inr (.inr 109)), some (.inl (zk))], [], [], []) = some ((d + 1, 173, 261, [some (.inr (.inr 109)), some (.inl (zk))], [.inr (.inl (Int64.ofNat 2328959603089435746)), .inr (.inr 109)], [], []), []) := rfl
theorem mi_tab_rs257_0 : ∀ e ∈ ([(173, (2, 1, sb_173))] : mi_T), sc_P e.1 = some e.2 := mi_tb mi_P173 (mi_tb_e)
set_option maxRecDepth 20000 in
theorem ms_rs257_0 {h : sm_H} {d : Nat} {Q : Option mi_V → sm_H → Prop} {zk : Int} (hS : ab_Sh sx_sk h) (ok_zk : mi_in zk) (kon : ∀ h1, me_W [] h h1 → ∃ Q1, me_E (d + 0) 174 0 (mi_entry 5 [.inr (.inr 109), .inr (.inl (Int64.ofNat 2328959603089435746))]) [] h1 Q1 ∧ ∀ w h2, (∀ x, w = some x → mi_ok x) → Q1 w h2 → me_E (d + 1) 173 264 [some (.inr (.inr 109)), some (.inl (zk))] (mi_back w []) h2 Q) : me_E (d + 1) 173 257 [some (.inr (.inr 109)), some (.inl (zk))] [] h Q := mf_seg (mp_rs257_0 h d zk) (mi_tab_rs257_0) hS (mi_okL_c (trivial) (mi_okL_c (ok_zk) (mi_okL_e))) (mi_okS_e) (mi_al_e) (fun h1 W _ hst => let ⟨_, k1, k2⟩ := kon h1 W; mf_call (M := (2, 1, sb_173)) (M' := (5, 0, sb_174)) rfl rfl rfl rfl (Nat.le_of_ble_eq_true rfl) (Nat.le_of_ble_eq_true rfl) W.1 k1 k2)
set_option maxRecDepth 20000 in
theorem mt_rs257 {h : sm_H} {d : Nat} {Q : Option mi_V → sm_H → Prop} {zk : Int} (hS : ab_Sh sx_sk h) (ok_zk : mi_in zk) (k0 : (∀ h1, ab_Sh sx_sk h1 → ab_Fr [] h h1 → ∃ Q1, me_E (d + 0) 174 0 (mi_entry 5 [.inr (.inr 109), .inr (.inl (Int64.ofNat 2328959603089435746))]) [] h1 Q1 ∧ ∀ w h2, (∀ x, w = some x → mi_ok x) → Q1 w h2 → me_E (d + 1) 173 264 [some (.inr (.inr 109)), some (.inl (zk))] (mi_back w []) h2 Q)) : me_E (d + 1) 173 257 [some (.inr (.inr 109)), some (.inl (zk))] [] h Q := ms_rs257_0 hS ok_zk (fun h1 W => (k0) h1 W.1 (W.2.2.2.2.2 _ rfl))
set_option maxRecDepth 20000 in
theorem mp_rs264_0 (h : sm_H) (d : Nat) (zk : Int) : mj_path [(173, (2, 1, sb_173))] sx_sk h 2 [] (d + 1, 173, 264, [some (.inr (.inr 109)), some (.inl (zk))], [], [], []) = some ((d + 1, 173, 268, [some (.inr (.inr 109)), some (.inl (zk))], [.inr (.inl (Int64.ofNat 6712369225264015913)), .inr (.inr 109)], [], []), []) := rfl
theorem mi_tab_rs264_0 : ∀ e ∈ ([(173, (2, 1, sb_173))] : mi_T), sc_P e.1 = some e.2 := mi_tb mi_P173 (mi_tb_e)
set_option maxRecDepth 20000 in
theorem ms_rs264_0 {h : sm_H} {d : Nat} {Q : Option mi_V → sm_H → Prop} {zk : Int} (hS : ab_Sh sx_sk h) (ok_zk : mi_in zk) (kon : ∀ h1, me_W [] h h1 → ∃ Q1, me_E (d + 0) 174 0 (mi_entry 5 [.inr (.inr 109), .inr (.inl (Int64.ofNat 6712369225264015913))]) [] h1 Q1 ∧ ∀ w h2, (∀ x, w = some x → mi_ok x) → Q1 w h2 → me_E (d + 1) 173 271 [some (.inr (.inr 109)), some (.inl (zk))] (mi_back w []) h2 Q) : me_E (d + 1) 173 264 [some (.inr (.inr 109)), some (.inl (zk))] [] h Q := mf_seg (mp_rs264_0 h d zk) (mi_tab_rs264_0) hS (mi_okL_c (trivial) (mi_okL_c (ok_zk) (mi_okL_e))) (mi_okS_e) (mi_al_e) (fun h1 W _ hst => let ⟨_, k1, k2⟩ := kon h1 W; mf_call (M := (2, 1, sb_173)) (M' := (5, 0, sb_174)) rfl rfl rfl rfl (Nat.le_of_ble_eq_true rfl) (Nat.le_of_ble_eq_true rfl) W.1 k1 k2)
set_option maxRecDepth 20000 in
theorem mt_rs264 {h : sm_H} {d : Nat} {Q : Option mi_V → sm_H → Prop} {zk : Int} (hS : ab_Sh sx_sk h) (ok_zk : mi_in zk) (k0 : (∀ h1, ab_Sh sx_sk h1 → ab_Fr [] h h1 → ∃ Q1, me_E (d + 0) 174 0 (mi_entry 5 [.inr (.inr 109), .inr (.inl (Int64.ofNat 6712369225264015913))]) [] h1 Q1 ∧ ∀ w h2, (∀ x, w = some x → mi_ok x) → Q1 w h2 → me_E (d + 1) 173 271 [some (.inr (.inr 109)), some (.inl (zk))] (mi_back w []) h2 Q)) : me_E (d + 1) 173 264 [some (.inr (.inr 109)), some (.inl (zk))] [] h Q := ms_rs264_0 hS ok_zk (fun h1 W => (k0) h1 W.1 (W.2.2.2.2.2 _ rfl))
set_option maxRecDepth 20000 in
theorem mp_rs271_0 (h : sm_H) (d : Nat) (zk : Int) : mj_path [(173, (2, 1, sb_173))] sx_sk h 2 [] (d + 1, 173, 271, [some (.inr (.inr 109)), some (.inl (zk))], [], [], []) = some ((d + 1, 173, 275, [some (.inr (.inr 109)), some (.inl (zk))], [.inr (.inl (Int64.ofNat 7935409752451463968)), .inr (.inr 109)], [], []), []) := rfl
theorem mi_tab_rs271_0 : ∀ e ∈ ([(173, (2, 1, sb_173))] : mi_T), sc_P e.1 = some e.2 := mi_tb mi_P173 (mi_tb_e)
set_option maxRecDepth 20000 in
theorem ms_rs271_0 {h : sm_H} {d : Nat} {Q : Option mi_V → sm_H → Prop} {zk : Int} (hS : ab_Sh sx_sk h) (ok_zk : mi_in zk) (kon : ∀ h1, me_W [] h h1 → ∃ Q1, me_E (d + 0) 174 0 (mi_entry 5 [.inr (.inr 109), .inr (.inl (Int64.ofNat 7935409752451463968))]) [] h1 Q1 ∧ ∀ w h2, (∀ x, w = some x → mi_ok x) → Q1 w h2 → me_E (d + 1) 173 278 [some (.inr (.inr 109)), some (.inl (zk))] (mi_back w []) h2 Q) : me_E (d + 1) 173 271 [some (.inr (.inr 109)), some (.inl (zk))] [] h Q := mf_seg (mp_rs271_0 h d zk) (mi_tab_rs271_0) hS (mi_okL_c (trivial) (mi_okL_c (ok_zk) (mi_okL_e))) (mi_okS_e) (mi_al_e) (fun h1 W _ hst => let ⟨_, k1, k2⟩ := kon h1 W; mf_call (M := (2, 1, sb_173)) (M' := (5, 0, sb_174)) rfl rfl rfl rfl (Nat.le_of_ble_eq_true rfl) (Nat.le_of_ble_eq_true rfl) W.1 k1 k2)
set_option maxRecDepth 20000 in
theorem mt_rs271 {h : sm_H} {d : Nat} {Q : Option mi_V → sm_H → Prop} {zk : Int} (hS : ab_Sh sx_sk h) (ok_zk : mi_in zk) (k0 : (∀ h1, ab_Sh sx_sk h1 → ab_Fr [] h h1 → ∃ Q1, me_E (d + 0) 174 0 (mi_entry 5 [.inr (.inr 109), .inr (.inl (Int64.ofNat 7935409752451463968))]) [] h1 Q1 ∧ ∀ w h2, (∀ x, w = some x → mi_ok x) → Q1 w h2 → me_E (d + 1) 173 278 [some (.inr (.inr 109)), some (.inl (zk))] (mi_back w []) h2 Q)) : me_E (d + 1) 173 271 [some (.inr (.inr 109)), some (.inl (zk))] [] h Q := ms_rs271_0 hS ok_zk (fun h1 W => (k0) h1 W.1 (W.2.2.2.2.2 _ rfl))
set_option maxRecDepth 20000 in
theorem mp_rs278_0 (h : sm_H) (d : Nat) (zk : Int) : mj_path [(173, (2, 1, sb_173))] sx_sk h 2 [] (d + 1, 173, 278, [some (.inr (.inr 109)), some (.inl (zk))], [], [], []) = some ((d + 1, 173, 282, [some (.inr (.inr 109)), some (.inl (zk))], [.inr (.inl (Int64.ofNat 2891374900493512033)), .inr (.inr 109)], [], []), []) := rfl
theorem mi_tab_rs278_0 : ∀ e ∈ ([(173, (2, 1, sb_173))] : mi_T), sc_P e.1 = some e.2 := mi_tb mi_P173 (mi_tb_e)
set_option maxRecDepth 20000 in
theorem ms_rs278_0 {h : sm_H} {d : Nat} {Q : Option mi_V → sm_H → Prop} {zk : Int} (hS : ab_Sh sx_sk h) (ok_zk : mi_in zk) (kon : ∀ h1, me_W [] h h1 → ∃ Q1, me_E (d + 0) 174 0 (mi_entry 5 [.inr (.inr 109), .inr (.inl (Int64.ofNat 2891374900493512033))]) [] h1 Q1 ∧ ∀ w h2, (∀ x, w = some x → mi_ok x) → Q1 w h2 → me_E (d + 1) 173 285 [some (.inr (.inr 109)), some (.inl (zk))] (mi_back w []) h2 Q) : me_E (d + 1) 173 278 [some (.inr (.inr 109)), some (.inl (zk))] [] h Q := mf_seg (mp_rs278_0 h d zk) (mi_tab_rs278_0) hS (mi_okL_c (trivial) (mi_okL_c (ok_zk) (mi_okL_e))) (mi_okS_e) (mi_al_e) (fun h1 W _ hst => let ⟨_, k1, k2⟩ := kon h1 W; mf_call (M := (2, 1, sb_173)) (M' := (5, 0, sb_174)) rfl rfl rfl rfl (Nat.le_of_ble_eq_true rfl) (Nat.le_of_ble_eq_true rfl) W.1 k1 k2)
set_option maxRecDepth 20000 in
theorem mt_rs278 {h : sm_H} {d : Nat} {Q : Option mi_V → sm_H → Prop} {zk : Int} (hS : ab_Sh sx_sk h) (ok_zk : mi_in zk) (k0 : (∀ h1, ab_Sh sx_sk h1 → ab_Fr [] h h1 → ∃ Q1, me_E (d + 0) 174 0 (mi_entry 5 [.inr (.inr 109), .inr (.inl (Int64.ofNat 2891374900493512033))]) [] h1 Q1 ∧ ∀ w h2, (∀ x, w = some x → mi_ok x) → Q1 w h2 → me_E (d + 1) 173 285 [some (.inr (.inr 109)), some (.inl (zk))] (mi_back w []) h2 Q)) : me_E (d + 1) 173 278 [some (.inr (.inr 109)), some (.inl (zk))] [] h Q := ms_rs278_0 hS ok_zk (fun h1 W => (k0) h1 W.1 (W.2.2.2.2.2 _ rfl))
set_option maxRecDepth 20000 in
theorem mp_rs285_0 (h : sm_H) (d : Nat) (zk : Int) : mj_path [(173, (2, 1, sb_173))] sx_sk h 2 [] (d + 1, 173, 285, [some (.inr (.inr 109)), some (.inl (zk))], [], [], []) = some ((d + 1, 173, 289, [some (.inr (.inr 109)), some (.inl (zk))], [.inr (.inl (Int64.ofNat 2338042629976321568)), .inr (.inr 109)], [], []), []) := rfl
theorem mi_tab_rs285_0 : ∀ e ∈ ([(173, (2, 1, sb_173))] : mi_T), sc_P e.1 = some e.2 := mi_tb mi_P173 (mi_tb_e)
set_option maxRecDepth 20000 in
theorem ms_rs285_0 {h : sm_H} {d : Nat} {Q : Option mi_V → sm_H → Prop} {zk : Int} (hS : ab_Sh sx_sk h) (ok_zk : mi_in zk) (kon : ∀ h1, me_W [] h h1 → ∃ Q1, me_E (d + 0) 174 0 (mi_entry 5 [.inr (.inr 109), .inr (.inl (Int64.ofNat 2338042629976321568))]) [] h1 Q1 ∧ ∀ w h2, (∀ x, w = some x → mi_ok x) → Q1 w h2 → me_E (d + 1) 173 292 [some (.inr (.inr 109)), some (.inl (zk))] (mi_back w []) h2 Q) : me_E (d + 1) 173 285 [some (.inr (.inr 109)), some (.inl (zk))] [] h Q := mf_seg (mp_rs285_0 h d zk) (mi_tab_rs285_0) hS (mi_okL_c (trivial) (mi_okL_c (ok_zk) (mi_okL_e))) (mi_okS_e) (mi_al_e) (fun h1 W _ hst => let ⟨_, k1, k2⟩ := kon h1 W; mf_call (M := (2, 1, sb_173)) (M' := (5, 0, sb_174)) rfl rfl rfl rfl (Nat.le_of_ble_eq_true rfl) (Nat.le_of_ble_eq_true rfl) W.1 k1 k2)
set_option maxRecDepth 20000 in
theorem mt_rs285 {h : sm_H} {d : Nat} {Q : Option mi_V → sm_H → Prop} {zk : Int} (hS : ab_Sh sx_sk h) (ok_zk : mi_in zk) (k0 : (∀ h1, ab_Sh sx_sk h1 → ab_Fr [] h h1 → ∃ Q1, me_E (d + 0) 174 0 (mi_entry 5 [.inr (.inr 109), .inr (.inl (Int64.ofNat 2338042629976321568))]) [] h1 Q1 ∧ ∀ w h2, (∀ x, w = some x → mi_ok x) → Q1 w h2 → me_E (d + 1) 173 292 [some (.inr (.inr 109)), some (.inl (zk))] (mi_back w []) h2 Q)) : me_E (d + 1) 173 285 [some (.inr (.inr 109)), some (.inl (zk))] [] h Q := ms_rs285_0 hS ok_zk (fun h1 W => (k0) h1 W.1 (W.2.2.2.2.2 _ rfl))
set_option maxRecDepth 20000 in
theorem mp_rs292_0 (h : sm_H) (d : Nat) (zk : Int) : mj_path [(173, (2, 1, sb_173))] sx_sk h 2 [] (d + 1, 173, 292, [some (.inr (.inr 109)), some (.inl (zk))], [], [], []) = some ((d + 1, 173, 296, [some (.inr (.inr 109)), some (.inl (zk))], [.inr (.inl (Int64.ofNat 737218325013405822)), .inr (.inr 109)], [], []), []) := rfl
theorem mi_tab_rs292_0 : ∀ e ∈ ([(173, (2, 1, sb_173))] : mi_T), sc_P e.1 = some e.2 := mi_tb mi_P173 (mi_tb_e)
set_option maxRecDepth 20000 in
theorem ms_rs292_0 {h : sm_H} {d : Nat} {Q : Option mi_V → sm_H → Prop} {zk : Int} (hS : ab_Sh sx_sk h) (ok_zk : mi_in zk) (kon : ∀ h1, me_W [] h h1 → ∃ Q1, me_E (d + 0) 174 0 (mi_entry 5 [.inr (.inr 109), .inr (.inl (Int64.ofNat 737218325013405822))]) [] h1 Q1 ∧ ∀ w h2, (∀ x, w = some x → mi_ok x) → Q1 w h2 → me_E (d + 1) 173 299 [some (.inr (.inr 109)), some (.inl (zk))] (mi_back w []) h2 Q) : me_E (d + 1) 173 292 [some (.inr (.inr 109)), some (.inl (zk))] [] h Q := mf_seg (mp_rs292_0 h d zk) (mi_tab_rs292_0) hS (mi_okL_c (trivial) (mi_okL_c (ok_zk) (mi_okL_e))) (mi_okS_e) (mi_al_e) (fun h1 W _ hst => let ⟨_, k1, k2⟩ := kon h1 W; mf_call (M := (2, 1, sb_173)) (M' := (5, 0, sb_174)) rfl rfl rfl rfl (Nat.le_of_ble_eq_true rfl) (Nat.le_of_ble_eq_true rfl) W.1 k1 k2)
set_option maxRecDepth 20000 in
theorem mt_rs292 {h : sm_H} {d : Nat} {Q : Option mi_V → sm_H → Prop} {zk : Int} (hS : ab_Sh sx_sk h) (ok_zk : mi_in zk) (k0 : (∀ h1, ab_Sh sx_sk h1 → ab_Fr [] h h1 → ∃ Q1, me_E (d + 0) 174 0 (mi_entry 5 [.inr (.inr 109), .inr (.inl (Int64.ofNat 737218325013405822))]) [] h1 Q1 ∧ ∀ w h2, (∀ x, w = some x → mi_ok x) → Q1 w h2 → me_E (d + 1) 173 299 [some (.inr (.inr 109)), some (.inl (zk))] (mi_back w []) h2 Q)) : me_E (d + 1) 173 292 [some (.inr (.inr 109)), some (.inl (zk))] [] h Q := ms_rs292_0 hS ok_zk (fun h1 W => (k0) h1 W.1 (W.2.2.2.2.2 _ rfl))
set_option maxRecDepth 20000 in
theorem mp_rs299_0 (h : sm_H) (d : Nat) (zk : Int) : mj_path [(173, (2, 1, sb_173))] sx_sk h 2 [] (d + 1, 173, 299, [some (.inr (.inr 109)), some (.inl (zk))], [], [], []) = some ((d + 1, 173, 303, [some (.inr (.inr 109)), some (.inl (zk))], [.inr (.inl (Int64.ofNat 7935381194378387541)), .inr (.inr 109)], [], []), []) := rfl
theorem mi_tab_rs299_0 : ∀ e ∈ ([(173, (2, 1, sb_173))] : mi_T), sc_P e.1 = some e.2 := mi_tb mi_P173 (mi_tb_e)
set_option maxRecDepth 20000 in
theorem ms_rs299_0 {h : sm_H} {d : Nat} {Q : Option mi_V → sm_H → Prop} {zk : Int} (hS : ab_Sh sx_sk h) (ok_zk : mi_in zk) (kon : ∀ h1, me_W [] h h1 → ∃ Q1, me_E (d + 0) 174 0 (mi_entry 5 [.inr (.inr 109), .inr (.inl (Int64.ofNat 7935381194378387541))]) [] h1 Q1 ∧ ∀ w h2, (∀ x, w = some x → mi_ok x) → Q1 w h2 → me_E (d + 1) 173 306 [some (.inr (.inr 109)), some (.inl (zk))] (mi_back w []) h2 Q) : me_E (d + 1) 173 299 [some (.inr (.inr 109)), some (.inl (zk))] [] h Q := mf_seg (mp_rs299_0 h d zk) (mi_tab_rs299_0) hS (mi_okL_c (trivial) (mi_okL_c (ok_zk) (mi_okL_e))) (mi_okS_e) (mi_al_e) (fun h1 W _ hst => let ⟨_, k1, k2⟩ := kon h1 W; mf_call (M := (2, 1, sb_173)) (M' := (5, 0, sb_174)) rfl rfl rfl rfl (Nat.le_of_ble_eq_true rfl) (Nat.le_of_ble_eq_true rfl) W.1 k1 k2)
set_option maxRecDepth 20000 in
theorem mt_rs299 {h : sm_H} {d : Nat} {Q : Option mi_V → sm_H → Prop} {zk : Int} (hS : ab_Sh sx_sk h) (ok_zk : mi_in zk) (k0 : (∀ h1, ab_Sh sx_sk h1 → ab_Fr [] h h1 → ∃ Q1, me_E (d + 0) 174 0 (mi_entry 5 [.inr (.inr 109), .inr (.inl (Int64.ofNat 7935381194378387541))]) [] h1 Q1 ∧ ∀ w h2, (∀ x, w = some x → mi_ok x) → Q1 w h2 → me_E (d + 1) 173 306 [some (.inr (.inr 109)), some (.inl (zk))] (mi_back w []) h2 Q)) : me_E (d + 1) 173 299 [some (.inr (.inr 109)), some (.inl (zk))] [] h Q := ms_rs299_0 hS ok_zk (fun h1 W => (k0) h1 W.1 (W.2.2.2.2.2 _ rfl))
set_option maxRecDepth 20000 in
theorem mp_rs306_0 (h : sm_H) (d : Nat) (zk : Int) : mj_path [(173, (2, 1, sb_173))] sx_sk h 2 [] (d + 1, 173, 306, [some (.inr (.inr 109)), some (.inl (zk))], [], [], []) = some ((d + 1, 173, 310, [some (.inr (.inr 109)), some (.inl (zk))], [.inr (.inl (Int64.ofNat 2819389844678339937)), .inr (.inr 109)], [], []), []) := rfl
theorem mi_tab_rs306_0 : ∀ e ∈ ([(173, (2, 1, sb_173))] : mi_T), sc_P e.1 = some e.2 := mi_tb mi_P173 (mi_tb_e)
set_option maxRecDepth 20000 in
theorem ms_rs306_0 {h : sm_H} {d : Nat} {Q : Option mi_V → sm_H → Prop} {zk : Int} (hS : ab_Sh sx_sk h) (ok_zk : mi_in zk) (kon : ∀ h1, me_W [] h h1 → ∃ Q1, me_E (d + 0) 174 0 (mi_entry 5 [.inr (.inr 109), .inr (.inl (Int64.ofNat 2819389844678339937))]) [] h1 Q1 ∧ ∀ w h2, (∀ x, w = some x → mi_ok x) → Q1 w h2 → me_E (d + 1) 173 313 [some (.inr (.inr 109)), some (.inl (zk))] (mi_back w []) h2 Q) : me_E (d + 1) 173 306 [some (.inr (.inr 109)), some (.inl (zk))] [] h Q := mf_seg (mp_rs306_0 h d zk) (mi_tab_rs306_0) hS (mi_okL_c (trivial) (mi_okL_c (ok_zk) (mi_okL_e))) (mi_okS_e) (mi_al_e) (fun h1 W _ hst => let ⟨_, k1, k2⟩ := kon h1 W; mf_call (M := (2, 1, sb_173)) (M' := (5, 0, sb_174)) rfl rfl rfl rfl (Nat.le_of_ble_eq_true rfl) (Nat.le_of_ble_eq_true rfl) W.1 k1 k2)
set_option maxRecDepth 20000 in
theorem mt_rs306 {h : sm_H} {d : Nat} {Q : Option mi_V → sm_H → Prop} {zk : Int} (hS : ab_Sh sx_sk h) (ok_zk : mi_in zk) (k0 : (∀ h1, ab_Sh sx_sk h1 → ab_Fr [] h h1 → ∃ Q1, me_E (d + 0) 174 0 (mi_entry 5 [.inr (.inr 109), .inr (.inl (Int64.ofNat 2819389844678339937))]) [] h1 Q1 ∧ ∀ w h2, (∀ x, w = some x → mi_ok x) → Q1 w h2 → me_E (d + 1) 173 313 [some (.inr (.inr 109)), some (.inl (zk))] (mi_back w []) h2 Q)) : me_E (d + 1) 173 306 [some (.inr (.inr 109)), some (.inl (zk))] [] h Q := ms_rs306_0 hS ok_zk (fun h1 W => (k0) h1 W.1 (W.2.2.2.2.2 _ rfl))
set_option maxRecDepth 20000 in
theorem mp_rs313_0 (h : sm_H) (d : Nat) (zk : Int) : mj_path [(173, (2, 1, sb_173))] sx_sk h 2 [] (d + 1, 173, 313, [some (.inr (.inr 109)), some (.inl (zk))], [], [], []) = some ((d + 1, 173, 317, [some (.inr (.inr 109)), some (.inl (zk))], [.inr (.inl (Int64.ofNat 8390326386895364132)), .inr (.inr 109)], [], []), []) := rfl
theorem mi_tab_rs313_0 : ∀ e ∈ ([(173, (2, 1, sb_173))] : mi_T), sc_P e.1 = some e.2 := mi_tb mi_P173 (mi_tb_e)
set_option maxRecDepth 20000 in
theorem ms_rs313_0 {h : sm_H} {d : Nat} {Q : Option mi_V → sm_H → Prop} {zk : Int} (hS : ab_Sh sx_sk h) (ok_zk : mi_in zk) (kon : ∀ h1, me_W [] h h1 → ∃ Q1, me_E (d + 0) 174 0 (mi_entry 5 [.inr (.inr 109), .inr (.inl (Int64.ofNat 8390326386895364132))]) [] h1 Q1 ∧ ∀ w h2, (∀ x, w = some x → mi_ok x) → Q1 w h2 → me_E (d + 1) 173 320 [some (.inr (.inr 109)), some (.inl (zk))] (mi_back w []) h2 Q) : me_E (d + 1) 173 313 [some (.inr (.inr 109)), some (.inl (zk))] [] h Q := mf_seg (mp_rs313_0 h d zk) (mi_tab_rs313_0) hS (mi_okL_c (trivial) (mi_okL_c (ok_zk) (mi_okL_e))) (mi_okS_e) (mi_al_e) (fun h1 W _ hst => let ⟨_, k1, k2⟩ := kon h1 W; mf_call (M := (2, 1, sb_173)) (M' := (5, 0, sb_174)) rfl rfl rfl rfl (Nat.le_of_ble_eq_true rfl) (Nat.le_of_ble_eq_true rfl) W.1 k1 k2)
set_option maxRecDepth 20000 in
theorem mt_rs313 {h : sm_H} {d : Nat} {Q : Option mi_V → sm_H → Prop} {zk : Int} (hS : ab_Sh sx_sk h) (ok_zk : mi_in zk) (k0 : (∀ h1, ab_Sh sx_sk h1 → ab_Fr [] h h1 → ∃ Q1, me_E (d + 0) 174 0 (mi_entry 5 [.inr (.inr 109), .inr (.inl (Int64.ofNat 8390326386895364132))]) [] h1 Q1 ∧ ∀ w h2, (∀ x, w = some x → mi_ok x) → Q1 w h2 → me_E (d + 1) 173 320 [some (.inr (.inr 109)), some (.inl (zk))] (mi_back w []) h2 Q)) : me_E (d + 1) 173 313 [some (.inr (.inr 109)), some (.inl (zk))] [] h Q := ms_rs313_0 hS ok_zk (fun h1 W => (k0) h1 W.1 (W.2.2.2.2.2 _ rfl))
set_option maxRecDepth 20000 in
theorem mp_rs320_0 (h : sm_H) (d : Nat) (zk : Int) : mj_path [(173, (2, 1, sb_173))] sx_sk h 2 [] (d + 1, 173, 320, [some (.inr (.inr 109)), some (.inl (zk))], [], [], []) = some ((d + 1, 173, 324, [some (.inr (.inr 109)), some (.inl (zk))], [.inr (.inl (Int64.ofNat 171647097)), .inr (.inr 109)], [], []), []) := rfl
theorem mi_tab_rs320_0 : ∀ e ∈ ([(173, (2, 1, sb_173))] : mi_T), sc_P e.1 = some e.2 := mi_tb mi_P173 (mi_tb_e)
set_option maxRecDepth 20000 in
theorem ms_rs320_0 {h : sm_H} {d : Nat} {Q : Option mi_V → sm_H → Prop} {zk : Int} (hS : ab_Sh sx_sk h) (ok_zk : mi_in zk) (kon : ∀ h1, me_W [] h h1 → ∃ Q1, me_E (d + 0) 174 0 (mi_entry 5 [.inr (.inr 109), .inr (.inl (Int64.ofNat 171647097))]) [] h1 Q1 ∧ ∀ w h2, (∀ x, w = some x → mi_ok x) → Q1 w h2 → me_E (d + 1) 173 327 [some (.inr (.inr 109)), some (.inl (zk))] (mi_back w []) h2 Q) : me_E (d + 1) 173 320 [some (.inr (.inr 109)), some (.inl (zk))] [] h Q := mf_seg (mp_rs320_0 h d zk) (mi_tab_rs320_0) hS (mi_okL_c (trivial) (mi_okL_c (ok_zk) (mi_okL_e))) (mi_okS_e) (mi_al_e) (fun h1 W _ hst => let ⟨_, k1, k2⟩ := kon h1 W; mf_call (M := (2, 1, sb_173)) (M' := (5, 0, sb_174)) rfl rfl rfl rfl (Nat.le_of_ble_eq_true rfl) (Nat.le_of_ble_eq_true rfl) W.1 k1 k2)
set_option maxRecDepth 20000 in
theorem mt_rs320 {h : sm_H} {d : Nat} {Q : Option mi_V → sm_H → Prop} {zk : Int} (hS : ab_Sh sx_sk h) (ok_zk : mi_in zk) (k0 : (∀ h1, ab_Sh sx_sk h1 → ab_Fr [] h h1 → ∃ Q1, me_E (d + 0) 174 0 (mi_entry 5 [.inr (.inr 109), .inr (.inl (Int64.ofNat 171647097))]) [] h1 Q1 ∧ ∀ w h2, (∀ x, w = some x → mi_ok x) → Q1 w h2 → me_E (d + 1) 173 327 [some (.inr (.inr 109)), some (.inl (zk))] (mi_back w []) h2 Q)) : me_E (d + 1) 173 320 [some (.inr (.inr 109)), some (.inl (zk))] [] h Q := ms_rs320_0 hS ok_zk (fun h1 W => (k0) h1 W.1 (W.2.2.2.2.2 _ rfl))
set_option maxRecDepth 20000 in
theorem mp_rs327_0 (h : sm_H) (d : Nat) (zk : Int) : mj_path [(173, (2, 1, sb_173))] sx_sk h 2 [] (d + 1, 173, 327, [some (.inr (.inr 109)), some (.inl (zk))], [], [], []) = some ((d + 1, 173, 331, [some (.inr (.inr 109)), some (.inl (zk))], [.inl (mi_f h 13953)], [], []), []) := rfl
theorem mi_tab_rs327_0 : ∀ e ∈ ([(173, (2, 1, sb_173))] : mi_T), sc_P e.1 = some e.2 := mi_tb mi_P173 (mi_tb_e)
set_option maxRecDepth 20000 in
theorem ms_rs327_0 {h : sm_H} {d : Nat} {Q : Option mi_V → sm_H → Prop} {zk : Int} (hS : ab_Sh sx_sk h) (ok_zk : mi_in zk) (kon : ∀ h1, me_W [] h h1 → Q (some (.inl (mi_f h 13953))) h1) : me_E (d + 1) 173 327 [some (.inr (.inr 109)), some (.inl (zk))] [] h Q := mf_seg (mp_rs327_0 h d zk) (mi_tab_rs327_0) hS (mi_okL_c (trivial) (mi_okL_c (ok_zk) (mi_okL_e))) (mi_okS_e) (mi_al_e) (fun h1 W _ hst => mf_ret (M := (2, 1, sb_173)) rfl rfl rfl hst (mi_al_e) (kon h1 W))
set_option maxRecDepth 20000 in
theorem mt_rs327 {h : sm_H} {d : Nat} {Q : Option mi_V → sm_H → Prop} {zk : Int} (hS : ab_Sh sx_sk h) (ok_zk : mi_in zk) (k0 : (∀ h1, ab_Sh sx_sk h1 → ab_Fr [] h h1 → Q (some (.inl (mi_f h 13953))) h1)) : me_E (d + 1) 173 327 [some (.inr (.inr 109)), some (.inl (zk))] [] h Q := ms_rs327_0 hS ok_zk (fun h1 W => (k0) h1 W.1 (W.2.2.2.2.2 _ rfl))
set_option maxRecDepth 20000 in
theorem mp_syA_0 (h : sm_H) (d : Nat) (zw : Int64) : mj_path [(174, (5, 0, sb_174))] sx_sk h 2 [] (d, 174, 0, [some (.inr (.inr 109)), some (.inr (.inl (zw))), none, none, none], [], [], []) = some ((d, 174, 2, [some (.inr (.inr 109)), some (.inr (.inl (zw))), none, some (.inl ((0 : Int))), none], [], [], []), []) := rfl
theorem mi_tab_syA_0 : ∀ e ∈ ([(174, (5, 0, sb_174))] : mi_T), sc_P e.1 = some e.2 := mi_tb mi_P174 (mi_tb_e)
set_option maxRecDepth 20000 in
theorem ms_syA_0 {h : sm_H} {d : Nat} {Q : Option mi_V → sm_H → Prop} {zw : Int64} (hS : ab_Sh sx_sk h)  (kon : ∀ h1, me_W [] h h1 → me_E (d) 174 2 [some (.inr (.inr 109)), some (.inr (.inl (zw))), none, some (.inl ((0 : Int))), none] [] h1 Q) : me_E (d) 174 0 [some (.inr (.inr 109)), some (.inr (.inl (zw))), none, none, none] [] h Q := mf_seg (mp_syA_0 h d zw) (mi_tab_syA_0) hS (mi_okL_c (trivial) (mi_okL_c (trivial) (mi_okL_n (mi_okL_n (mi_okL_n (mi_okL_e)))))) (mi_okS_e) (mi_al_e) (fun h1 W _ hst => kon h1 W)
set_option maxRecDepth 20000 in
theorem mt_syA {h : sm_H} {d : Nat} {Q : Option mi_V → sm_H → Prop} {zw : Int64} (hS : ab_Sh sx_sk h)  (k0 : (∀ h1, ab_Sh sx_sk h1 → ab_Fr [] h h1 → me_E (d) 174 2 [some (.inr (.inr 109)), some (.inr (.inl (zw))), none, some (.inl ((0 : Int))), none] [] h1 Q)) : me_E (d) 174 0 [some (.inr (.inr 109)), some (.inr (.inl (zw))), none, none, none] [] h Q := ms_syA_0 hS (fun h1 W => (k0) h1 W.1 (W.2.2.2.2.2 _ rfl))
set_option maxRecDepth 20000 in
theorem mp_syB_0 (h : sm_H) (d : Nat) (zk : Int) (zw : Int64) (q4 : Option mi_V) : mj_path [(174, (5, 0, sb_174))] sx_sk h 3 [1] (d, 174, 2, [some (.inr (.inr 109)), some (.inr (.inl (zw))), none, some (.inl (zk)), q4], [], [], []) = some ((d, 174, 50, [some (.inr (.inr 109)), some (.inr (.inl (zw))), none, some (.inl (zk)), q4], [], [], []), [((8 : Int)) ≤ zk]) := rfl
theorem mi_tab_syB_0 : ∀ e ∈ ([(174, (5, 0, sb_174))] : mi_T), sc_P e.1 = some e.2 := mi_tb mi_P174 (mi_tb_e)
set_option maxRecDepth 20000 in
theorem ms_syB_0 {h : sm_H} {d : Nat} {Q : Option mi_V → sm_H → Prop} {zk : Int} {zw : Int64} {q4 : Option mi_V} (hS : ab_Sh sx_sk h) (ok_zk : mi_in zk) (ok_q4 : ∀ v, q4 = some v → mi_ok v) (ho : (((8 : Int)) ≤ zk)) (kon : ∀ h1, me_W [] h h1 → Q none h1) : me_E (d) 174 2 [some (.inr (.inr 109)), some (.inr (.inl (zw))), none, some (.inl (zk)), q4] [] h Q := mf_seg (mp_syB_0 h d zk zw q4) (mi_tab_syB_0) hS (mi_okL_c (trivial) (mi_okL_c (trivial) (mi_okL_n (mi_okL_c (ok_zk) (mi_okL_o ok_q4 (mi_okL_e)))))) (mi_okS_e) (mi_al (ho) (mi_al_e)) (fun h1 W _ hst => mf_ret (M := (5, 0, sb_174)) rfl rfl rfl hst (mi_al_e) (kon h1 W))
set_option maxRecDepth 20000 in
theorem mp_syB_1 (h : sm_H) (d : Nat) (zk : Int) (zw : Int64) (q4 : Option mi_V) : mj_path [(174, (5, 0, sb_174))] sx_sk h 16 [0, 1] (d, 174, 2, [some (.inr (.inr 109)), some (.inr (.inl (zw))), none, some (.inl (zk)), q4], [], [], []) = some ((d, 174, 2, [some (.inr (.inr 109)), some (.inr (.inl (zw))), none, some (.inl (zk + 1)), some (.inl (((zw >>> ((Int32.ofInt (((8 : Int)) * zk)).toInt64 &&& 63)) &&& (Int64.ofNat 255)).toInt32.toInt))], [], [], []), [zk < ((8 : Int)), -2147483648 ≤ ((8 : Int)) * zk ∧ ((8 : Int)) * zk ≤ 2147483647, (((zw >>> ((Int32.ofInt (((8 : Int)) * zk)).toInt64 &&& 63)) &&& (Int64.ofNat 255)).toInt32.toInt) ≤ ((0 : Int)), -2147483648 ≤ zk + 1 ∧ zk + 1 ≤ 2147483647]) := rfl
theorem mi_tab_syB_1 : ∀ e ∈ ([(174, (5, 0, sb_174))] : mi_T), sc_P e.1 = some e.2 := mi_tb mi_P174 (mi_tb_e)
set_option maxRecDepth 20000 in
theorem ms_syB_1 {h : sm_H} {d : Nat} {Q : Option mi_V → sm_H → Prop} {zk : Int} {zw : Int64} {q4 : Option mi_V} (hS : ab_Sh sx_sk h) (ok_zk : mi_in zk) (ok_q4 : ∀ v, q4 = some v → mi_ok v) (ho : (zk < ((8 : Int))) ∧ (-2147483648 ≤ ((8 : Int)) * zk ∧ ((8 : Int)) * zk ≤ 2147483647) ∧ ((((zw >>> ((Int32.ofInt (((8 : Int)) * zk)).toInt64 &&& 63)) &&& (Int64.ofNat 255)).toInt32.toInt) ≤ ((0 : Int))) ∧ (-2147483648 ≤ zk + 1 ∧ zk + 1 ≤ 2147483647)) (kon : ∀ h1, me_W [] h h1 → me_E (d) 174 2 [some (.inr (.inr 109)), some (.inr (.inl (zw))), none, some (.inl (zk + 1)), some (.inl (((zw >>> ((Int32.ofInt (((8 : Int)) * zk)).toInt64 &&& 63)) &&& (Int64.ofNat 255)).toInt32.toInt))] [] h1 Q) : me_E (d) 174 2 [some (.inr (.inr 109)), some (.inr (.inl (zw))), none, some (.inl (zk)), q4] [] h Q := mf_seg (mp_syB_1 h d zk zw q4) (mi_tab_syB_1) hS (mi_okL_c (trivial) (mi_okL_c (trivial) (mi_okL_n (mi_okL_c (ok_zk) (mi_okL_o ok_q4 (mi_okL_e)))))) (mi_okS_e) (mi_al (ho.1) (mi_al (ho.2.1) (mi_al (ho.2.2.1) (mi_al (ho.2.2.2) (mi_al_e))))) (fun h1 W _ hst => kon h1 W)
set_option maxRecDepth 20000 in
theorem mp_syB_2 (h : sm_H) (d : Nat) (zk : Int) (zw : Int64) (q4 : Option mi_V) : mj_path [(174, (5, 0, sb_174))] sx_sk h 27 [0, 0, 8] (d, 174, 2, [some (.inr (.inr 109)), some (.inr (.inl (zw))), none, some (.inl (zk)), q4], [], [], []) = some ((d, 174, 2, [some (.inr (.inr 109)), some (.inr (.inl (zw))), none, some (.inl (zk + 1)), some (.inl (((zw >>> ((Int32.ofInt (((8 : Int)) * zk)).toInt64 &&& 63)) &&& (Int64.ofNat 255)).toInt32.toInt))], [], [.inr (.inr (.inl (110, Int.toNat (mi_f h 13953), ((zw >>> ((Int32.ofInt (((8 : Int)) * zk)).toInt64 &&& 63)) &&& (Int64.ofNat 255)).toInt32.toInt))), .inl (13953, (mi_f h 13953) + ((1 : Int)))], []), [zk < ((8 : Int)), -2147483648 ≤ ((8 : Int)) * zk ∧ ((8 : Int)) * zk ≤ 2147483647, ((0 : Int)) < (((zw >>> ((Int32.ofInt (((8 : Int)) * zk)).toInt64 &&& 63)) &&& (Int64.ofNat 255)).toInt32.toInt), -2147483648 ≤ (mi_f h 13953) + ((1 : Int)) ∧ (mi_f h 13953) + ((1 : Int)) ≤ 2147483647, 0 ≤ ((mi_f h 13953) + ((1 : Int))) ∧ ((mi_f h 13953) + ((1 : Int))) ≤ 240, 0 ≤ (mi_f h 13953) ∧ (mi_f h 13953) < 240, 0 ≤ (((zw >>> ((Int32.ofInt (((8 : Int)) * zk)).toInt64 &&& 63)) &&& (Int64.ofNat 255)).toInt32.toInt) ∧ (((zw >>> ((Int32.ofInt (((8 : Int)) * zk)).toInt64 &&& 63)) &&& (Int64.ofNat 255)).toInt32.toInt) ≤ 255, -2147483648 ≤ zk + 1 ∧ zk + 1 ≤ 2147483647]) := rfl
theorem mi_tab_syB_2 : ∀ e ∈ ([(174, (5, 0, sb_174))] : mi_T), sc_P e.1 = some e.2 := mi_tb mi_P174 (mi_tb_e)
set_option maxRecDepth 20000 in
theorem ms_syB_2 {h : sm_H} {d : Nat} {Q : Option mi_V → sm_H → Prop} {zk : Int} {zw : Int64} {q4 : Option mi_V} (hS : ab_Sh sx_sk h) (ok_zk : mi_in zk) (ok_q4 : ∀ v, q4 = some v → mi_ok v) (ho : (zk < ((8 : Int))) ∧ (-2147483648 ≤ ((8 : Int)) * zk ∧ ((8 : Int)) * zk ≤ 2147483647) ∧ (((0 : Int)) < (((zw >>> ((Int32.ofInt (((8 : Int)) * zk)).toInt64 &&& 63)) &&& (Int64.ofNat 255)).toInt32.toInt)) ∧ (-2147483648 ≤ (mi_f h 13953) + ((1 : Int)) ∧ (mi_f h 13953) + ((1 : Int)) ≤ 2147483647) ∧ (0 ≤ ((mi_f h 13953) + ((1 : Int))) ∧ ((mi_f h 13953) + ((1 : Int))) ≤ 240) ∧ (0 ≤ (mi_f h 13953) ∧ (mi_f h 13953) < 240) ∧ (0 ≤ (((zw >>> ((Int32.ofInt (((8 : Int)) * zk)).toInt64 &&& 63)) &&& (Int64.ofNat 255)).toInt32.toInt) ∧ (((zw >>> ((Int32.ofInt (((8 : Int)) * zk)).toInt64 &&& 63)) &&& (Int64.ofNat 255)).toInt32.toInt) ≤ 255) ∧ (-2147483648 ≤ zk + 1 ∧ zk + 1 ≤ 2147483647)) (kon : ∀ h1, me_W [.inr (.inr (.inl (110, Int.toNat (mi_f h 13953), ((zw >>> ((Int32.ofInt (((8 : Int)) * zk)).toInt64 &&& 63)) &&& (Int64.ofNat 255)).toInt32.toInt))), .inl (13953, (mi_f h 13953) + ((1 : Int)))] h h1 → me_E (d) 174 2 [some (.inr (.inr 109)), some (.inr (.inl (zw))), none, some (.inl (zk + 1)), some (.inl (((zw >>> ((Int32.ofInt (((8 : Int)) * zk)).toInt64 &&& 63)) &&& (Int64.ofNat 255)).toInt32.toInt))] [] h1 Q) : me_E (d) 174 2 [some (.inr (.inr 109)), some (.inr (.inl (zw))), none, some (.inl (zk)), q4] [] h Q := mf_seg (mp_syB_2 h d zk zw q4) (mi_tab_syB_2) hS (mi_okL_c (trivial) (mi_okL_c (trivial) (mi_okL_n (mi_okL_c (ok_zk) (mi_okL_o ok_q4 (mi_okL_e)))))) (mi_okS_e) (mi_al (ho.1) (mi_al (ho.2.1) (mi_al (ho.2.2.1) (mi_al (ho.2.2.2.1) (mi_al (ho.2.2.2.2.1) (mi_al (ho.2.2.2.2.2.1) (mi_al (ho.2.2.2.2.2.2.1) (mi_al (ho.2.2.2.2.2.2.2) (mi_al_e))))))))) (fun h1 W _ hst => kon h1 W)
set_option maxRecDepth 20000 in
theorem mt_syB {h : sm_H} {d : Nat} {Q : Option mi_V → sm_H → Prop} {zk : Int} {zw : Int64} {q4 : Option mi_V} (hS : ab_Sh sx_sk h) (ok_zk : mi_in zk) (ok_q4 : ∀ v, q4 = some v → mi_ok v) (k0 : (((8 : Int)) ≤ zk) → (∀ h1, ab_Sh sx_sk h1 → ab_Fr [] h h1 → Q none h1)) (k1 : (zk < ((8 : Int))) → ((((zw >>> ((Int32.ofInt (((8 : Int)) * zk)).toInt64 &&& 63)) &&& (Int64.ofNat 255)).toInt32.toInt) ≤ ((0 : Int))) → ((-2147483648 ≤ ((8 : Int)) * zk ∧ ((8 : Int)) * zk ≤ 2147483647) ∧ (-2147483648 ≤ zk + 1 ∧ zk + 1 ≤ 2147483647)) ∧ (∀ h1, ab_Sh sx_sk h1 → ab_Fr [] h h1 → me_E (d) 174 2 [some (.inr (.inr 109)), some (.inr (.inl (zw))), none, some (.inl (zk + 1)), some (.inl (((zw >>> ((Int32.ofInt (((8 : Int)) * zk)).toInt64 &&& 63)) &&& (Int64.ofNat 255)).toInt32.toInt))] [] h1 Q)) (k2 : (0 ≤ mi_f h 13953 ∧ mi_f h 13953 ≤ 240) → (zk < ((8 : Int))) → (((0 : Int)) < (((zw >>> ((Int32.ofInt (((8 : Int)) * zk)).toInt64 &&& 63)) &&& (Int64.ofNat 255)).toInt32.toInt)) → ((-2147483648 ≤ ((8 : Int)) * zk ∧ ((8 : Int)) * zk ≤ 2147483647) ∧ (-2147483648 ≤ (mi_f h 13953) + ((1 : Int)) ∧ (mi_f h 13953) + ((1 : Int)) ≤ 2147483647) ∧ (0 ≤ ((mi_f h 13953) + ((1 : Int))) ∧ ((mi_f h 13953) + ((1 : Int))) ≤ 240) ∧ (0 ≤ (mi_f h 13953) ∧ (mi_f h 13953) < 240) ∧ (0 ≤ (((zw >>> ((Int32.ofInt (((8 : Int)) * zk)).toInt64 &&& 63)) &&& (Int64.ofNat 255)).toInt32.toInt) ∧ (((zw >>> ((Int32.ofInt (((8 : Int)) * zk)).toInt64 &&& 63)) &&& (Int64.ofNat 255)).toInt32.toInt) ≤ 255) ∧ (-2147483648 ≤ zk + 1 ∧ zk + 1 ≤ 2147483647)) ∧ (∀ h1, ab_Sh sx_sk h1 → mi_f h1 13953 = (mi_f h 13953) + ((1 : Int)) → (∀ i, mi_a h1 110 i = if i = Int.toNat (mi_f h 13953) then ((zw >>> ((Int32.ofInt (((8 : Int)) * zk)).toInt64 &&& 63)) &&& (Int64.ofNat 255)).toInt32.toInt else (mi_a h 110 i)) → ab_Fr [(13953, 13954), (14080, 14081)] h h1 → me_E (d) 174 2 [some (.inr (.inr 109)), some (.inr (.inl (zw))), none, some (.inl (zk + 1)), some (.inl (((zw >>> ((Int32.ofInt (((8 : Int)) * zk)).toInt64 &&& 63)) &&& (Int64.ofNat 255)).toInt32.toInt))] [] h1 Q)) : me_E (d) 174 2 [some (.inr (.inr 109)), some (.inr (.inl (zw))), none, some (.inl (zk)), q4] [] h Q := Or.elim (mi_em .ge (zk) (((8 : Int)))) (fun c0 => ms_syB_0 hS ok_zk ok_q4 (c0) (fun h1 W => (k0 c0) h1 W.1 (W.2.2.2.2.2 _ rfl))) (fun c0 => Or.elim (mi_em .le ((((zw >>> ((Int32.ofInt (((8 : Int)) * zk)).toInt64 &&& 63)) &&& (Int64.ofNat 255)).toInt32.toInt)) (((0 : Int)))) (fun c1 => ms_syB_1 hS ok_zk ok_q4 ⟨c0, (k1 c0 c1).1.1, c1, (k1 c0 c1).1.2⟩ (fun h1 W => (k1 c0 c1).2 h1 W.1 (W.2.2.2.2.2 _ rfl))) (fun c1 => ms_syB_2 hS ok_zk ok_q4 ⟨c0, (k2 (me_fb hS rfl) c0 c1).1.1, c1, (k2 (me_fb hS rfl) c0 c1).1.2.1, (k2 (me_fb hS rfl) c0 c1).1.2.2.1, (k2 (me_fb hS rfl) c0 c1).1.2.2.2.1, (k2 (me_fb hS rfl) c0 c1).1.2.2.2.2.1, (k2 (me_fb hS rfl) c0 c1).1.2.2.2.2.2⟩ (fun h1 W => (k2 (me_fb hS rfl) c0 c1).2 h1 W.1 (W.2.1 13953) (fun i => W.2.2.1 110 i) (W.2.2.2.2.2 _ rfl))))
