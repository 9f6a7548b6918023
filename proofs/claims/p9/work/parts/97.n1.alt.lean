/-! the class's Sets: an alternative -/
def ra_V : List (Nat × Nat) := [(10752, 10753), (10880, 10881), (11008, 11009), (11136, 11137), (11392, 11393), (11520, 11521)]
/-- a part's own void and starts are as X has it -/
def pt_ok (P : Int → sp_P) (X : sp_X) (h : sm_H) (u : Nat) : Prop := mi_a h 89 u = sp_v X (P u) ∧ mx_b h 90 u = sp_s X (P u)
def pt_same (h h' : sm_H) (u : Nat) : Prop := mi_a h' 89 u = mi_a h 89 u ∧ mx_b h' 90 u = mx_b h 90 u
def ra_Q (hb h : sm_H) (za ze zh : Int) (zs : Int64) (row : List Int) (w : Option mi_V) (h' : sm_H) : Prop := w = none ∧ ab_Sh sx_sk h' ∧ ab_Fr ra_V hb h' ∧
  mi_a h' 84 za.toNat = (if ze ≠ 0 then sa_v (cX hb) (row.map (cv_p hb)) else 0) ∧ mx_b h' 85 za.toNat = (if ze ≠ 0 then zs ||| sa_s (cX hb) (row.map (cv_p hb)) else zs) ∧ mi_a h' 87 za.toNat = max zh (min 1000 (sa_h (cX hb) (row.map (cv_p hb)))) ∧
  (∀ u : Nat, (u : Int) ∈ row → pt_ok (cv_p hb) (cX hb) h' u) ∧ ∀ u : Nat, (u : Int) ∉ row → pt_same h h' u
theorem or_0r (x : Int64) : x ||| 0 = x := tb_ext (fun b => by rw [tb_or, tb_0, Bool.or_false])
theorem or_as (x y z : Int64) : x ||| y ||| z = x ||| (y ||| z) := tb_ext (fun b => by rw [tb_or, tb_or, tb_or, tb_or, Bool.or_assoc])
section RAL
variable {d : Nat} {hb : sm_H} {U za : Int}
theorem ra_exit {ze zb zh zp zn : Int} {zs : Int64} {h : sm_H} (a0 : 0 ≤ za) (a1 : za < 66) (hS : ab_Sh sx_sk h) (hF : ab_Fr ra_V hb h) (e01 : ze = 0 ∨ ze = 1) (ob : mi_in zb) (oh : mi_in zh) (h0 : 0 ≤ zh) (op : mi_in zp) (on : mi_in zn) : me_E (d + 4) 69 124 [some (.inr (.inr 78)), some (.inl za), some (.inl ze), some (.inr (.inl zs)), none, some (.inl zb), some (.inl zh), some (.inl zp), some (.inl zn)] [] h (ra_Q hb h za ze zh zs []) := by
  have oa : mi_in za := ⟨by omega, by omega⟩
  have oe : mi_in ze := ⟨by omega, by omega⟩
  refine mt_raH hS oa oe ob oh op on ?_ ?_ ?_ ?_ ?_ ?_
  · intro c1 c2; exfalso; omega
  · intro c1 c2 c3; exfalso; omega
  · intro c1 c2 c3
    refine ⟨by omega, fun h1 s1 s2 s3 s4 s5 s6 => ⟨rfl, s1, hF.trans (s6.wide (fun c hc => ab_swr_ok (by decide) hc)), ?_, ?_, ?_, fun u hu => absurd hu List.not_mem_nil, fun u _ => ⟨me_a (k := 89) s6 hS rfl rfl, me_b (k := 90) s6 hS rfl rfl⟩⟩⟩
    · rw [s2, if_pos rfl, if_neg (fun q => q c1)]
    · rw [s5, if_pos rfl, if_neg (fun q => q c1)]
    · rw [s4, if_pos rfl]
      show zh = max zh (min 1000 0)
      omega
  · intro c1 c2; exfalso; omega
  · intro c1 c2 c3; exfalso; omega
  · intro c1 c2 c3
    refine ⟨by omega, fun h1 s1 s2 s3 s4 s5 s6 => ⟨rfl, s1, hF.trans (s6.wide (fun c hc => ab_swr_ok (by decide) hc)), ?_, ?_, ?_, fun u hu => absurd hu List.not_mem_nil, fun u _ => ⟨me_a (k := 89) s6 hS rfl rfl, me_b (k := 90) s6 hS rfl rfl⟩⟩⟩
    · rw [s2, if_pos rfl, if_pos c1]
      rfl
    · rw [s5, if_pos rfl, if_pos c1]
      exact (or_0r zs).symm
    · rw [s4, if_pos rfl]
      show zh = max zh (min 1000 0)
      omega
theorem ra_loop (hSb : ab_Sh sx_sk hb) (hU : cv_u hb U) (h01 : sp_01 70 (cX hb)) (hH : ∀ F : Nat, F < 70 → mi_a hb 82 F ≤ 1000) (a0 : 0 ≤ za) (a1 : za < 66) : ∀ (N : Nat) (ze zb zh zp zn : Int) (zs : Int64) (h : sm_H), (N : Int) = 60 - zn → 0 ≤ zn → (ze = 0 ∨ ze = 1) → mi_in zb → 0 ≤ zh → zh ≤ 1000 → (zp = -1 ∨ (0 ≤ zp ∧ zp < U)) → ab_Sh sx_sk h → ab_Fr ra_V hb h → me_E (d + 4) 69 26 [some (.inr (.inr 78)), some (.inl za), some (.inl ze), some (.inr (.inl zs)), none, some (.inl zb), some (.inl zh), some (.inl zp), some (.inl zn)] [] h (ra_Q hb h za ze zh zs (cv_row hb N zp)) := by
  have oa : mi_in za := ⟨by omega, by omega⟩
  have hU60 := hU.1
  intro N
  induction N with
  | zero =>
    intro ze zb zh zp zn zs h hN n0 e01 ob h0 h1 hp hS hF
    have oe : mi_in ze := ⟨by omega, by omega⟩
    have oh : mi_in zh := ⟨by omega, by omega⟩
    have op : mi_in zp := ⟨by omega, by omega⟩
    have on : mi_in zn := ⟨by omega, by omega⟩
    refine mt_raB hS oa oe ob oh op on ?_ ?_ ?_
    · intro c1 h2 g1 g2
      have e0 := me_nil g2
      subst e0
      exact ra_exit a0 a1 hS hF e01 ob oh h0 op on
    · intro c1 c2 h2 g1 g2
      have e0 := me_nil g2
      subst e0
      exact ra_exit a0 a1 hS hF e01 ob oh h0 op on
    · intro c1 c2; exfalso; omega
  | succ N ih =>
    intro ze zb zh zp zn zs h hN n0 e01 ob h0 h1 hp hS hF
    have oe : mi_in ze := ⟨by omega, by omega⟩
    have oh : mi_in zh := ⟨by omega, by omega⟩
    have op : mi_in zp := ⟨by omega, by omega⟩
    have on : mi_in zn := ⟨by omega, by omega⟩
    refine mt_raB hS oa oe ob oh op on ?_ ?_ ?_
    · intro c1 h2 g1 g2
      have e0 := me_nil g2
      subst e0
      have er : cv_row hb (N + 1) zp = [] := by rw [cv_row_c, if_pos c1]
      rw [er]
      exact ra_exit a0 a1 hS hF e01 ob oh h0 op on
    · intro c1 c2; exfalso; omega
    · intro c1 c2 h2 g1 g2
      have e0 := me_nil g2
      subst e0
      have p01 : 0 ≤ zp ∧ zp < U := hp.resolve_left c1
      obtain ⟨w1, w2, w3⟩ := hU.2 zp p01.1 p01.2
      have er : cv_row hb (N + 1) zp = zp :: cv_row hb N (mi_a hb 71 zp.toNat) := by rw [cv_row_c, if_neg c1]
      have eP : cv_p h2 = cv_p hb := cv_p_fr hF hSb rfl
      have eX : cX h2 = cX hb := cX_fr hF hSb rfl
      have eg : gf_v h2 zp = gf_v hb zp := gf_fr hF hSb rfl
      refine ⟨_, me_refreshPart (d := d) hS p01.1 (by omega) (by rw [eg]; exact w2) (by rw [me_a (k := 68) hF hSb rfl rfl, me_a (k := 69) hF hSb rfl rfl]; exact w3), fun w h3 oww hq => ?_⟩
      obtain ⟨rfl, s1, s2, s3, s4⟩ := hq
      rw [eP, eX] at s3 s4
      have F3 : ab_Fr ra_V hb h3 := hF.trans (s2.wide (fun c hc => ab_swr_ok (by decide) hc))
      have p89 : mi_a h3 89 zp.toNat = sp_v (cX hb) (cv_p hb zp) := by rw [s3, if_pos rfl]
      have p90 : mx_b h3 90 zp.toNat = sp_s (cX hb) (cv_p hb zp) := by rw [s4, if_pos rfl]
      have e71 : mi_a h3 71 zp.toNat = mi_a hb 71 zp.toNat := me_a (k := 71) F3 hSb rfl rfl
      have e72 : mi_a h3 72 zp.toNat = mi_a hb 72 zp.toNat := me_a (k := 72) F3 hSb rfl rfl
      have ez : (zp.toNat : Int) = zp := Int.toNat_of_nonneg p01.1
      /- behind this part -/
      have T99 : ∀ (ze' zb' : Int) (zs' : Int64), (ze' = 0 ∨ ze' = 1) → mi_in zb' → (ze' ≠ 0 ↔ (ze ≠ 0 ∧ sp_e (cX hb) (cv_p hb zp))) → zs' = (if ze ≠ 0 then zs ||| sp_s (cX hb) (cv_p hb zp) else zs) → me_E (d + 4) 69 99 [some (.inr (.inr 78)), some (.inl za), some (.inl ze'), some (.inr (.inl zs')), none, some (.inl zb'), some (.inl zh), some (.inl zp), some (.inl zn)] [.inl (min 1000 (sp_h (cX hb) (cv_p hb zp))), .inl zh] h3 (ra_Q hb h2 za ze zh zs (cv_row hb (N + 1) zp)) := by
        intro ze' zb' zs' q1 q2 q3 q4
        have oe' : mi_in ze' := ⟨by omega, by omega⟩
        have oc : mi_in (min 1000 (sp_h (cX hb) (cv_p hb zp))) := by
          have : -2147483648 ≤ sp_h (cX hb) (cv_p hb zp) := by
            unfold sp_h
            split
            · decide
            · split
              · have x := (mi_inT (mx_a hb 82 (cv_p hb zp).1.toNat)).1
                have x : -2147483648 ≤ mi_a hb 82 (cv_p hb zp).1.toNat := x
                show -2147483648 ≤ mi_a hb 82 (cv_p hb zp).1.toNat + (if mi_a hb 68 zp.toNat = 9 then 1 else 0)
                split <;> omega
              · decide
          exact ⟨by omega, by omega⟩
        have go : ∀ zm, zm = max zh (min 1000 (sp_h (cX hb) (cv_p hb zp))) → me_E (d + 4) 69 26 [some (.inr (.inr 78)), some (.inl za), some (.inl ze'), some (.inr (.inl zs')), none, some (.inl zb'), some (.inl zm), some (.inl (mi_a h3 71 (Int.toNat zp))), some (.inl (zn + 1))] [] h3 (ra_Q hb h2 za ze zh zs (cv_row hb (N + 1) zp)) := by
          intro zm ezm
          rw [e71]
          refine (ih ze' zb' zm (mi_a hb 71 zp.toNat) (zn + 1) zs' h3 (by omega) (by omega) q1 q2 (by omega) (by omega) (by omega) s1 F3).imp (fun w h' hq => ?_)
          obtain ⟨r1, r2, r3, r4, r5, r6, r7, r8⟩ := hq
          rw [er]
          refine ⟨r1, r2, r3, ?_, ?_, ?_, fun u hu => ?_, fun u hu => ?_⟩
          · rw [r4, List.map_cons]
            rw [sa_v_c]
            by_cases ce : ze ≠ 0
            · rw [if_pos ce]
              by_cases cp : sp_e (cX hb) (cv_p hb zp)
              · rw [if_pos cp, if_pos (q3.mpr ⟨ce, cp⟩)]
              · rw [if_neg cp, if_neg (fun q => cp (q3.mp q).2)]
            · rw [if_neg ce, if_neg (fun q => ce (q3.mp q).1)]
          · rw [r5, q4, List.map_cons]
            rw [sa_s_c]
            by_cases ce : ze ≠ 0
            · rw [if_pos ce, if_pos ce]
              by_cases cp : sp_e (cX hb) (cv_p hb zp)
              · rw [if_pos cp, if_pos (q3.mpr ⟨ce, cp⟩), or_as]
              · rw [if_neg cp, if_neg (fun q => cp (q3.mp q).2)]
            · rw [if_neg ce, if_neg ce, if_neg (fun q => ce (q3.mp q).1)]
          · rw [r6, ezm, List.map_cons]
            rw [sa_h_c]
            omega
          · by_cases cm : (u : Int) ∈ cv_row hb N (mi_a hb 71 zp.toNat)
            · exact r7 u cm
            · rcases List.mem_cons.mp hu with hu | hu
              · have eu : u = zp.toNat := by omega
                obtain ⟨x1, x2⟩ := r8 u cm
                unfold pt_ok
                rw [x1, x2, eu, p89, p90, ez]
                exact ⟨rfl, rfl⟩
              · exact absurd hu cm
          · obtain ⟨x1, x2⟩ := r8 u (fun q => hu (List.mem_cons_of_mem _ q))
            have nu : u ≠ zp.toNat := fun q => hu (by rw [q, ez]; exact List.mem_cons_self)
            unfold pt_same
            rw [x1, x2, s3, s4, if_neg nu, if_neg nu]
            exact ⟨rfl, rfl⟩
        refine mt_raG s1 oa oe' q2 oh op on oc oh ?_ ?_ ?_ ?_ ?_ ?_
        · intro k1 k2; exfalso; omega
        · intro k1 k2 k3; exfalso; omega
        · intro k1 k2 k3
          refine ⟨by omega, fun h4 g1 g2 => ?_⟩
          have e0 := me_nil g2
          subst e0
          exact go _ (by omega)
        · intro k1 k2; exfalso; omega
        · intro k1 k2 k3; exfalso; omega
        · intro k1 k2 k3
          refine ⟨by omega, fun h4 g1 g2 => ?_⟩
          have e0 := me_nil g2
          subst e0
          exact go _ (by omega)
      have HC : ∀ h4, h4 = h3 → me_E (d + 3) 75 0 [some (.inr (.inr 78)), some (.inl zp), none, none] [] h4 (fun w h' => h' = h4 ∧ w = some (.inl (min 1000 (sp_h (cX hb) (cv_p hb zp))))) := by
        intro h4 e4
        subst e4
        have := me_heightc (d := d) (zu := zp) s1 p01.1 (by omega) (by rw [gf_fr F3 hSb rfl]; exact w2) (fun F hF' => by rw [me_a (k := 82) F3 hSb rfl rfl]; exact hH F hF')
        rw [cv_p_fr F3 hSb rfl, cX_fr F3 hSb rfl] at this
        exact this
      have ie : sp_e (cX hb) (cv_p hb zp) ↔ (mi_a h3 72 zp.toNat ≠ 0 ∨ mi_a h3 89 zp.toNat = 1) := by
        unfold sp_e
        rw [e72, p89]
        have v01 := cv_v01 (zu := zp) h01 w2
        constructor
        · rintro (q | q)
          · refine Or.inl (fun x => q ?_)
            show (if mi_a hb 72 zp.toNat = 0 then (0 : Int) else if mi_a hb 72 zp.toNat = 5 then 1 else 2) = 0
            rw [if_pos x]
          · exact Or.inr (v01.resolve_left q)
        · rintro (q | q)
          · refine Or.inl ?_
            show (if mi_a hb 72 zp.toNat = 0 then (0 : Int) else if mi_a hb 72 zp.toNat = 5 then 1 else 2) ≠ 0
            rw [if_neg q]
            split <;> decide
          · exact Or.inr (by rw [q]; decide)
      have T72 : ∀ (zb' : Int) (zs' : Int64), mi_in zb' → zs' = (if ze ≠ 0 then zs ||| sp_s (cX hb) (cv_p hb zp) else zs) → me_E (d + 4) 69 72 [some (.inr (.inr 78)), some (.inl za), some (.inl ze), some (.inr (.inl zs')), none, some (.inl zb'), some (.inl zh), some (.inl zp), some (.inl zn)] [] h3 (ra_Q hb h2 za ze zh zs (cv_row hb (N + 1) zp)) := by
        intro zb' zs' q2 q4
        refine mt_raE s1 oa oe q2 oh op on ?_ ?_
        · intro k1 h4 g1 g2
          have e0 := me_nil g2
          refine ⟨_, HC h4 e0, fun w h5 oww hq => ?_⟩
          obtain ⟨rfl, rfl⟩ := hq
          rw [e0]
          exact T99 0 zb' zs' (Or.inl rfl) q2 ⟨fun q => absurd rfl q, fun q => absurd k1 q.1⟩ q4
        · intro k1 h4 g1 g2
          have e0 := me_nil g2
          subst e0
          refine ⟨_, me_mayBePassed (d := d + 1) s1 p01.1 (by omega), fun w h5 oww hq => ?_⟩
          obtain ⟨rfl, z, rfl, z01, hz⟩ := hq
          refine mt_raF s1 oa oe q2 oh op on ⟨by omega, by omega⟩ ?_ ?_
          · intro k2 h6 g1 g2
            have e0 := me_nil g2
            refine ⟨_, HC h6 e0, fun w h7 oww hq => ?_⟩
            obtain ⟨rfl, rfl⟩ := hq
            rw [e0]
            exact T99 0 zb' zs' (Or.inl rfl) q2 ⟨fun q => absurd rfl q, fun q => by have := hz.mpr (ie.mp q.2); omega⟩ q4
          · intro k2 h6 g1 g2
            have e0 := me_nil g2
            refine ⟨_, HC h6 e0, fun w h7 oww hq => ?_⟩
            obtain ⟨rfl, rfl⟩ := hq
            rw [e0]
            exact T99 1 zb' zs' (Or.inr rfl) q2 ⟨fun _ => ⟨k1, ie.mpr (hz.mp (by omega))⟩, fun _ => by decide⟩ q4
      refine mt_raC s1 oa oe ob oh op on ?_ ?_ ?_ ?_
      · intro k1 h4 g1 g2
        have e0 := me_nil g2
        subst e0
        exact T72 zb zs ob (by rw [if_neg (fun q => q k1)])
      · intro k1 k2; exfalso; omega
      · intro k1 k2 k3; exfalso; omega
      · intro k1 k2 k3
        refine ⟨by omega, fun h4 g1 g2 => ?_⟩
        have e0 := me_nil g2
        subst e0
        refine ⟨_, me_beginsc (d := d + 1) s1 op, fun w h5 oww hq => ?_⟩
        obtain ⟨rfl, z, rfl, oz⟩ := hq
        refine mt_raD s1 oa oe ob oh op on oz ob (fun h6 g1 g2 => ?_)
        have e0 := me_nil g2
        subst e0
        refine T72 _ _ (mi_inT _) ?_
        rw [if_pos k1, p90]
theorem me_refreshAlternative {h : sm_H} (hSb : ab_Sh sx_sk hb) (hU : cv_u hb U) (h01 : sp_01 70 (cX hb)) (hH : ∀ F : Nat, F < 70 → mi_a hb 82 F ≤ 1000) (a0 : 0 ≤ za) (a1 : za < 66) (hp : mi_a hb 65 za.toNat = -1 ∨ (0 ≤ mi_a hb 65 za.toNat ∧ mi_a hb 65 za.toNat < U)) (hS : ab_Sh sx_sk h) (hF : ab_Fr ra_V hb h) : me_E (d + 4) 69 0 [some (.inr (.inr 78)), some (.inl za), none, none, none, none, none, none, none] [] h (ra_Q hb h za 1 0 0 (cv_row hb 60 (mi_a hb 65 za.toNat))) := by
  refine mt_raA hS ⟨by omega, by omega⟩ ?_ ?_ ?_
  · intro c1; exfalso; omega
  · intro c1 c2; exfalso; omega
  · intro c1 c2
    refine ⟨by omega, fun h1 g1 g2 => ?_⟩
    have e0 := me_nil g2
    subst e0
    rw [me_a (k := 65) hF hSb rfl rfl]
    exact ra_loop hSb hU h01 hH a0 a1 60 1 0 0 _ 0 0 h1 (by decide) (by decide) (Or.inr rfl) fm_in0 (by decide) (by decide) hp hS hF
end RAL
