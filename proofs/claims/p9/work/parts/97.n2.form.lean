/-! the class's Sets: a form -/
def cv_as (h : sm_H) : Nat → Int → List Int
  | 0, _ => []
  | m + 1, a => a :: cv_as h m (mi_a h 66 a.toNat)
def cv_l (h : sm_H) (a : Int) : List Int := cv_row h 60 (mi_a h 65 a.toNat)
def cv_n (h : sm_H) (F : Nat) : Nat := (min 6 (mi_a h 64 F)).toNat
def GC (h : sm_H) : sg_G := fun F => (cv_as h (cv_n h F) (mi_a h 63 F)).map (fun a => (cv_l h a).map (cv_p h))
/-- the alternatives' numbers are in their range -/
def cv_al (h : sm_H) (U : Int) : Nat → Int → Prop
  | 0, _ => True
  | m + 1, a => (0 ≤ a ∧ a < 66) ∧ (mi_a h 65 a.toNat = -1 ∨ (0 ≤ mi_a h 65 a.toNat ∧ mi_a h 65 a.toNat < U)) ∧ cv_al h U m (mi_a h 66 a.toNat)
theorem sa_h_0 (X : sp_X) : ∀ us, 0 ≤ sa_h X us := by
  intro us
  induction us with
  | nil => exact Int.le_refl _
  | cons p r ih => unfold sa_h; omega
theorem or_01 {a b : Int} (ha : a = 0 ∨ a = 1) (hb : b = 0 ∨ b = 1) : (Int32.ofInt a ||| Int32.ofInt b).toInt = if a ≠ 0 ∨ b ≠ 0 then 1 else 0 := by
  rcases ha with rfl | rfl <;> rcases hb with rfl | rfl <;> rfl
theorem lg_eq {a b : Int64} : (lg_cmp a b).toInt = 0 ↔ a = b := by
  unfold lg_cmp
  constructor
  · intro h
    by_cases c1 : a > b
    · simp only [c1, if_true] at h
      exact absurd h (by decide)
    · by_cases c2 : a = b
      · exact c2
      · simp only [c1, c2, if_false] at h
        exact absurd h (by decide)
  · intro h
    subst h
    simp
def rm_W : List (Nat × Nat) := [(9999, 10000), (10112, 10113), (10240, 10241), (10496, 10497), (10624, 10625), (10752, 10753), (10880, 10881), (11008, 11009), (11136, 11137), (11392, 11393), (11520, 11521)]
def rm_Q (hb : sm_H) (zf : Int) (w : Option mi_V) (h' : sm_H) : Prop := w = none ∧ ab_Sh sx_sk h' ∧ ab_Fr rm_W hb h' ∧ cX h' = su (GC hb) zf.toNat (cX hb) ∧ (mi_f h' 9999 = 0 → mi_f hb 9999 = 0 ∧ cX h' = cX hb) ∧
  (∀ u : Nat, (∃ a ∈ cv_as hb (cv_n hb zf.toNat) (mi_a hb 63 zf.toNat), (u : Int) ∈ cv_l hb a) → pt_ok (cv_p hb) (cX hb) h' u) ∧ ∀ u : Nat, (∀ a ∈ cv_as hb (cv_n hb zf.toNat) (mi_a hb 63 zf.toNat), (u : Int) ∉ cv_l hb a) → pt_same hb h' u
section RMF
variable {d : Nat} {hb : sm_H} {U zf : Int}
/-- the loop is through: as is what was looked at -/
theorem rm_exit {as : List Int} {ze zb zh za zn : Int} {zs : Int64} {h : sm_H} (hSb : ab_Sh sx_sk hb) (f0 : 0 ≤ zf) (f1 : zf < 70) (hS : ab_Sh sx_sk h) (hF : ab_Fr ra_V hb h) (eas : as = cv_as hb (cv_n hb zf.toNat) (mi_a hb 63 zf.toNat)) (ev : ze = sf_v (cX hb) (as.map (fun a => (cv_l hb a).map (cv_p hb)))) (es : zs = sf_s (cX hb) (as.map (fun a => (cv_l hb a).map (cv_p hb)))) (eh : zh = sf_h (cX hb) (as.map (fun a => (cv_l hb a).map (cv_p hb)))) (p1 : ∀ u : Nat, (∃ a ∈ as, (u : Int) ∈ cv_l hb a) → pt_ok (cv_p hb) (cX hb) h u) (p2 : ∀ u : Nat, (∀ a ∈ as, (u : Int) ∉ cv_l hb a) → pt_same hb h u) (oe : mi_in ze) (ob : mi_in zb) (oh : mi_in zh) (oa : mi_in za) (on : mi_in zn) : me_E (d + 5) 68 131 [some (.inr (.inr 78)), some (.inl zf), some (.inl ze), some (.inr (.inl zs)), none, some (.inl zb), some (.inl zh), some (.inl za), some (.inl zn)] [] h (rm_Q hb zf) := by
  have of : mi_in zf := ⟨by omega, by omega⟩
  have eG : as.map (fun a => (cv_l hb a).map (cv_p hb)) = GC hb zf.toNat := by rw [eas]; rfl
  rw [eG] at ev es eh
  have e79 : mi_a h 79 zf.toNat = mi_a hb 79 zf.toNat := me_a (k := 79) hF hSb rfl rfl
  have e82 : mi_a h 82 zf.toNat = mi_a hb 82 zf.toNat := me_a (k := 82) hF hSb rfl rfl
  have e80 : mx_b h 80 zf.toNat = mx_b hb 80 zf.toNat := me_b (k := 80) hF hSb rfl rfl
  have e99 : mi_f h 9999 = mi_f hb 9999 := me_f (c := 9999) hF hSb rfl rfl
  have go : ∀ h1, ab_Sh sx_sk h1 → ab_Fr [(9999, 10000)] h h1 → (mi_f h1 9999 = 0 → mi_f h 9999 = 0 ∧ ze = mi_a h 79 zf.toNat ∧ zs = mx_b h 80 zf.toNat ∧ zh = mi_a h 82 zf.toNat) → me_E (d + 5) 68 198 [some (.inr (.inr 78)), some (.inl zf), some (.inl ze), some (.inr (.inl zs)), none, some (.inl zb), some (.inl zh), some (.inl za), some (.inl zn)] [] h1 (rm_Q hb zf) := by
    intro h1 s1 s2 s3
    refine mt_rmE s1 of oe ob oh oa on ?_ ?_ ?_
    · intro c1; exfalso; omega
    · intro c1 c2; exfalso; omega
    · intro c1 c2
      refine ⟨by omega, fun h2 t1 t2 t3 t4 t5 t6 => ?_⟩
      have F1 : ab_Fr rm_W hb h1 := (hF.wide (fun c hc => ab_swr_ok (by decide) hc)).trans (s2.wide (fun c hc => ab_swr_ok (by decide) hc))
      have F2 : ab_Fr rm_W hb h2 := F1.trans (t6.wide (fun c hc => ab_swr_ok (by decide) hc))
      have a79 : ∀ i, mi_a h1 79 i = mi_a hb 79 i := fun i => (me_a (k := 79) s2 hS rfl rfl).trans (me_a (k := 79) hF hSb rfl rfl)
      have a82 : ∀ i, mi_a h1 82 i = mi_a hb 82 i := fun i => (me_a (k := 82) s2 hS rfl rfl).trans (me_a (k := 82) hF hSb rfl rfl)
      have a80 : ∀ i, mx_b h1 80 i = mx_b hb 80 i := fun i => (me_b (k := 80) s2 hS rfl rfl).trans (me_b (k := 80) hF hSb rfl rfl)
      have a89 : ∀ i, mi_a h2 89 i = mi_a h 89 i := fun i => (me_a (k := 89) t6 s1 rfl rfl).trans (me_a (k := 89) s2 hS rfl rfl)
      have a90 : ∀ i, mx_b h2 90 i = mx_b h 90 i := fun i => (me_b (k := 90) t6 s1 rfl rfl).trans (me_b (k := 90) s2 hS rfl rfl)
      have eX : cX h2 = su (GC hb) zf.toNat (cX hb) := by
        unfold cX su
        refine Prod.ext (funext fun i => ?_) (Prod.ext (funext fun i => ?_) (funext fun i => ?_))
        · show mi_a h2 79 i = if i = zf.toNat then _ else mi_a hb 79 i
          rw [t2, a79, ev]
          all_goals rfl
        · show mx_b h2 80 i = if i = zf.toNat then _ else mx_b hb 80 i
          rw [t5, a80, es]
          all_goals rfl
        · show mi_a h2 82 i = if i = zf.toNat then _ else mi_a hb 82 i
          rw [t3, a82, eh]
          all_goals rfl
      refine ⟨rfl, t1, F2, eX, fun q => ?_, fun u hu => ?_, fun u hu => ?_⟩
      · have q1 : mi_f h1 9999 = 0 := (me_f (c := 9999) t6 s1 rfl rfl).symm.trans q
        obtain ⟨x1, x2, x3, x4⟩ := s3 q1
        refine ⟨e99.symm.trans x1, ?_⟩
        rw [e79] at x2
        rw [e80] at x3
        rw [e82] at x4
        unfold cX
        refine Prod.ext (funext fun i => ?_) (Prod.ext (funext fun i => ?_) (funext fun i => ?_))
        · show mi_a h2 79 i = mi_a hb 79 i
          rw [t2, a79]
          by_cases ci : i = zf.toNat
          · rw [if_pos ci, ci]; exact x2
          · rw [if_neg ci]
        · show mx_b h2 80 i = mx_b hb 80 i
          rw [t5, a80]
          by_cases ci : i = zf.toNat
          · rw [if_pos ci, ci]; exact x3
          · rw [if_neg ci]
        · show mi_a h2 82 i = mi_a hb 82 i
          rw [t3, a82]
          by_cases ci : i = zf.toNat
          · rw [if_pos ci, ci]; exact x4
          · rw [if_neg ci]
      · rw [← eas] at hu
        obtain ⟨x1, x2⟩ := p1 u hu
        exact ⟨(a89 u).trans x1, (a90 u).trans x2⟩
      · rw [← eas] at hu
        obtain ⟨x1, x2⟩ := p2 u hu
        exact ⟨(a89 u).trans x1, (a90 u).trans x2⟩
  refine mt_rmD hS of oe ob oh oa on ?_ ?_ ?_ ?_ ?_ ?_ ?_ ?_ ?_ ?_ ?_ ?_ ?_ ?_ ?_ ?_
  · intro b k1 h1 s1 s2 s3
    exact go h1 s1 s3 (fun q => by omega)
  · intro b k1 k2; exfalso; omega
  · intro b k1 k2; exfalso; omega
  · intro b k1 k2; exfalso; omega
  · intro b k1 k2; exfalso; omega
  · intro b k1 k2; exfalso; omega
  · intro b k1 k2 k3; exfalso; omega
  · intro b k1 k2 k3; exfalso; omega
  · intro b k1 k2 k3; exfalso; omega
  · intro b k1 k2 k3; exfalso; omega
  · intro b k1 k2 k3; exfalso; omega
  · intro b k1 k2 k3 k4
    exact ⟨by omega, fun h1 s1 s2 s3 => go h1 s1 s3 (fun q => by omega)⟩
  · intro b k1 k2 k3 k4 k5
    exact ⟨by omega, fun h1 s1 s2 s3 => go h1 s1 s3 (fun q => by omega)⟩
  · intro b k1 k2 k3 k4 k5 k6
    exact ⟨by omega, fun h1 s1 s2 s3 => go h1 s1 s3 (fun q => by omega)⟩
  · intro b k1 k2 k3 k4 k5 k6 k7
    exact ⟨by omega, fun h1 s1 s2 s3 => go h1 s1 s3 (fun q => ⟨k1, k4, lg_eq.mp k5, k7⟩)⟩
  · intro b k1 k2 k3 k4 k5 k6 k7
    exact ⟨by omega, fun h1 s1 s2 s3 => go h1 s1 s3 (fun q => by omega)⟩
theorem sf_app (X : sp_X) : ∀ (as bs : List (List sp_P)), sf_v X (as ++ bs) = (if sf_v X as ≠ 0 then 1 else sf_v X bs) ∧ sf_s X (as ++ bs) = sf_s X as ||| sf_s X bs ∧ sf_h X (as ++ bs) = min (sf_h X as) (sf_h X bs) := by
  intro as bs
  induction as with
  | nil =>
    have := sf_h_1000 X bs
    refine ⟨rfl, ?_, ?_⟩
    · show sf_s X bs = 0 ||| sf_s X bs
      exact tb_ext (fun b => by rw [tb_or, tb_0, Bool.false_or])
    · show sf_h X bs = min 1000 (sf_h X bs)
      omega
  | cons a r ih =>
    obtain ⟨i1, i2, i3⟩ := ih
    rw [List.cons_append]
    rw [sf_v_c, sf_v_c, sf_s_c, sf_s_c, sf_h_c, sf_h_c, i1, i2, i3]
    refine ⟨?_, (or_as _ _ _).symm, by omega⟩
    by_cases c : sa_v X a ≠ 0
    · rw [if_pos c, if_pos c, if_pos (by decide)]
    · rw [if_neg c, if_neg c]
theorem rm_loop (hSb : ab_Sh sx_sk hb) (hU : cv_u hb U) (h01 : sp_01 70 (cX hb)) (hH : ∀ F : Nat, F < 70 → mi_a hb 82 F ≤ 1000) (f0 : 0 ≤ zf) (f1 : zf < 70) : ∀ (m : Nat) (as : List Int) (ze zb zh za zn : Int) (zs : Int64) (h : sm_H), (m : Int) + zn = cv_n hb zf.toNat → 0 ≤ zn → cv_al hb U m za → as ++ cv_as hb m za = cv_as hb (cv_n hb zf.toNat) (mi_a hb 63 zf.toNat) → mi_in zb → mi_in za → ze = sf_v (cX hb) (as.map (fun a => (cv_l hb a).map (cv_p hb))) → zs = sf_s (cX hb) (as.map (fun a => (cv_l hb a).map (cv_p hb))) → zh = sf_h (cX hb) (as.map (fun a => (cv_l hb a).map (cv_p hb))) → 0 ≤ zh → (∀ u : Nat, (∃ a ∈ as, (u : Int) ∈ cv_l hb a) → pt_ok (cv_p hb) (cX hb) h u) → (∀ u : Nat, (∀ a ∈ as, (u : Int) ∉ cv_l hb a) → pt_same hb h u) → ab_Sh sx_sk h → ab_Fr ra_V hb h → me_E (d + 5) 68 28 [some (.inr (.inr 78)), some (.inl zf), some (.inl ze), some (.inr (.inl zs)), none, some (.inl zb), some (.inl zh), some (.inl za), some (.inl zn)] [] h (rm_Q hb zf) := by
  have of : mi_in zf := ⟨by omega, by omega⟩
  intro m
  induction m with
  | zero =>
    intro as ze zb zh za zn zs h hN n0 hal eas ob oa ev es eh h0 p1 p2 hS hF
    have e01 := sf_v_01 (cX hb) (as.map (fun a => (cv_l hb a).map (cv_p hb)))
    rw [← ev] at e01
    have h1000 := sf_h_1000 (cX hb) (as.map (fun a => (cv_l hb a).map (cv_p hb)))
    rw [← eh] at h1000
    have oe : mi_in ze := ⟨by omega, by omega⟩
    have oh : mi_in zh := ⟨by omega, by omega⟩
    have cn : cv_n hb zf.toNat ≤ 6 := by unfold cv_n; omega
    have on : mi_in zn := ⟨by omega, by omega⟩
    have e64 : mi_a h 64 zf.toNat = mi_a hb 64 zf.toNat := me_a (k := 64) hF hSb rfl rfl
    have eas : as = cv_as hb (cv_n hb zf.toNat) (mi_a hb 63 zf.toNat) := by rw [← eas]; exact (List.append_nil as).symm
    refine mt_rmB hS of oe ob oh oa on ?_ ?_ ?_ ?_ ?_ ?_ ?_ ?_ ?_
    · intro c1; exfalso; omega
    · intro c1; exfalso; omega
    · intro c1; exfalso; omega
    · intro c1 c2; exfalso; omega
    · intro c1 c2; exfalso; omega
    · intro c1 c2; exfalso; omega
    · intro c1 c2 c3
      refine ⟨by omega, fun h1 g1 g2 => ?_⟩
      have e0 := me_nil g2
      subst e0
      exact rm_exit hSb f0 f1 hS hF eas ev es eh p1 p2 oe ob oh oa on
    · intro c1 c2 c3 c4
      refine ⟨by omega, fun h1 g1 g2 => ?_⟩
      have e0 := me_nil g2
      subst e0
      exact rm_exit hSb f0 f1 hS hF eas ev es eh p1 p2 oe ob oh oa on
    · intro c1 c2 c3 c4
      exfalso
      rw [e64] at c3
      unfold cv_n at hN
      omega
  | succ m ih =>
    intro as ze zb zh za zn zs h hN n0 hal eas ob oa ev es eh h0 p1 p2 hS hF
    obtain ⟨⟨a0, a1⟩, hp, hal'⟩ := hal
    have e01 := sf_v_01 (cX hb) (as.map (fun a => (cv_l hb a).map (cv_p hb)))
    rw [← ev] at e01
    have h1000 := sf_h_1000 (cX hb) (as.map (fun a => (cv_l hb a).map (cv_p hb)))
    rw [← eh] at h1000
    have oe : mi_in ze := ⟨by omega, by omega⟩
    have oh : mi_in zh := ⟨by omega, by omega⟩
    have cn : cv_n hb zf.toNat ≤ 6 := by unfold cv_n; omega
    have on : mi_in zn := ⟨by omega, by omega⟩
    have e64 : mi_a h 64 zf.toNat = mi_a hb 64 zf.toNat := me_a (k := 64) hF hSb rfl rfl
    have lt : zn < mi_a hb 64 zf.toNat := by unfold cv_n at hN; omega
    have eas' : (as ++ [za]) ++ cv_as hb m (mi_a hb 66 za.toNat) = cv_as hb (cv_n hb zf.toNat) (mi_a hb 63 zf.toNat) := by
      rw [← eas, List.append_assoc]
      all_goals rfl
    refine mt_rmB hS of oe ob oh oa on ?_ ?_ ?_ ?_ ?_ ?_ ?_ ?_ ?_
    · intro c1; exfalso; omega
    · intro c1; exfalso; omega
    · intro c1; exfalso; omega
    · intro c1 c2; exfalso; omega
    · intro c1 c2; exfalso; omega
    · intro c1 c2; exfalso; omega
    · intro c1 c2 c3
      exfalso
      rw [e64] at c3
      omega
    · intro c1 c2 c3 c4; exfalso; omega
    · intro c1 c2 c3 c4
      refine ⟨by omega, fun h1 g1 g2 => ?_⟩
      have e0 := me_nil g2
      subst e0
      refine ⟨_, me_refreshAlternative (d := d) hSb hU h01 hH a0 a1 hp hS hF, fun w h2 oww hq => ?_⟩
      obtain ⟨rfl, s1, s2, s3, s4, s5, s6, s7⟩ := hq
      rw [if_pos (by decide)] at s3 s4
      have el : cv_row hb 60 (mi_a hb 65 za.toNat) = cv_l hb za := rfl
      rw [el] at s3 s4 s5 s6 s7
      have z0 : (0 : Int64) ||| sa_s (cX hb) ((cv_l hb za).map (cv_p hb)) = sa_s (cX hb) ((cv_l hb za).map (cv_p hb)) := tb_ext (fun b => by rw [tb_or, tb_0, Bool.false_or])
      rw [z0] at s4
      have sh0 := sa_h_0 (cX hb) ((cv_l hb za).map (cv_p hb))
      have s5 : mi_a h2 87 za.toNat = min 1000 (sa_h (cX hb) ((cv_l hb za).map (cv_p hb))) := by omega
      have a01 := sa_v_01 (cX hb) ((cv_l hb za).map (cv_p hb))
      obtain ⟨A1, A2, A3⟩ := sf_app (cX hb) (as.map (fun a => (cv_l hb a).map (cv_p hb))) [(cv_l hb za).map (cv_p hb)]
      have em : (as ++ [za]).map (fun a => (cv_l hb a).map (cv_p hb)) = as.map (fun a => (cv_l hb a).map (cv_p hb)) ++ [(cv_l hb za).map (cv_p hb)] := by rw [List.map_append]; rfl
      have e66 : mi_a h2 66 za.toNat = mi_a hb 66 za.toNat := me_a (k := 66) s2 hSb rfl rfl
      have nx : ∀ zm, zm = min zh (mi_a h2 87 za.toNat) → me_E (d + 5) 68 28 [some (.inr (.inr 78)), some (.inl zf), some (.inl ((Int32.ofInt ze ||| Int32.ofInt (mi_a h2 84 (Int.toNat za))).toInt)), some (.inr (.inl (zs ||| mx_b h2 85 (Int.toNat za)))), none, some (.inl ((Int32.ofInt zb ||| Int32.ofInt (mi_a h2 86 (Int.toNat za))).toInt)), some (.inl zm), some (.inl (mi_a h2 66 (Int.toNat za))), some (.inl (zn + 1))] [] h2 (rm_Q hb zf) := by
        intro zm ezm
        rw [e66]
        refine ih (as ++ [za]) _ _ zm _ (zn + 1) _ h2 (by omega) (by omega) hal' eas' (mi_inT _) (mi_inT _) ?_ ?_ ?_ (by omega) (fun u hu => ?_) (fun u hu => ?_) s1 s2
        · rw [em, A1, s3, or_01 e01 a01, ← ev]
          by_cases c : ze ≠ 0
          · rw [if_pos c, if_pos (Or.inl c)]
          · rw [if_neg c]
            rw [sf_v_c, sf_v_n]
            by_cases c2 : sa_v (cX hb) ((cv_l hb za).map (cv_p hb)) ≠ 0
            · rw [if_pos c2, if_pos (Or.inr c2)]
            · rw [if_neg c2, if_neg (fun q => q.elim c c2)]
        · rw [em, A2, s4, ← es]
          congr 1
          exact (or_0r _).symm
        · rw [em, A3, ← eh, ezm, s5]
          rw [sf_h_c, sf_h_n]
          omega
        · obtain ⟨a, ha, hu⟩ := hu
          by_cases cm : (u : Int) ∈ cv_l hb za
          · exact s6 u cm
          · rcases List.mem_append.mp ha with ha | ha
            · obtain ⟨x1, x2⟩ := s7 u cm
              obtain ⟨y1, y2⟩ := p1 u ⟨a, ha, hu⟩
              exact ⟨x1.trans y1, x2.trans y2⟩
            · rw [List.mem_singleton.mp ha] at hu
              exact absurd hu cm
        · obtain ⟨x1, x2⟩ := s7 u (hu za (List.mem_append.mpr (Or.inr (List.mem_singleton.mpr rfl))))
          obtain ⟨y1, y2⟩ := p2 u (fun a ha => hu a (List.mem_append.mpr (Or.inl ha)))
          exact ⟨x1.trans y1, x2.trans y2⟩
      refine mt_rmC s1 of oe ob oh oa on ?_ ?_ ?_ ?_ ?_ ?_
      · intro k1; exfalso; omega
      · intro k1; exfalso; omega
      · intro k1 k2; exfalso; omega
      · intro k1 k2; exfalso; omega
      · intro k1 k2 k3
        refine ⟨by omega, fun h3 g1 g2 => ?_⟩
        have e0 := me_nil g2
        subst e0
        exact nx _ (by omega)
      · intro k1 k2 k3
        refine ⟨by omega, fun h3 g1 g2 => ?_⟩
        have e0 := me_nil g2
        subst e0
        exact nx _ (by omega)
theorem me_refreshForm (hSb : ab_Sh sx_sk hb) (hU : cv_u hb U) (h01 : sp_01 70 (cX hb)) (hH : ∀ F : Nat, F < 70 → mi_a hb 82 F ≤ 1000) (f0 : 0 ≤ zf) (f1 : zf < 70) (hal : cv_al hb U (cv_n hb zf.toNat) (mi_a hb 63 zf.toNat)) : me_E (d + 5) 68 0 [some (.inr (.inr 78)), some (.inl zf), none, none, none, none, none, none, none] [] hb (rm_Q hb zf) := by
  refine mt_rmA hSb ⟨by omega, by omega⟩ ?_ ?_ ?_
  · intro c1; exfalso; omega
  · intro c1 c2; exfalso; omega
  · intro c1 c2
    refine ⟨by omega, fun h1 g1 g2 => ?_⟩
    have e0 := me_nil g2
    subst e0
    exact rm_loop hSb hU h01 hH f0 f1 _ [] 0 0 1000 _ 0 _ h1 (by omega) (by decide) hal rfl fm_in0 (mi_inT _) rfl rfl rfl (by decide) (fun u hu => by obtain ⟨a, ha, -⟩ := hu; cases ha) (fun u _ => ⟨rfl, rfl⟩) hSb ab_Fr.refl
end RMF
