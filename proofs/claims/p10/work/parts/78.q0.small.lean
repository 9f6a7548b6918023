/-! reading: newForm, blame, begin, put -/
section RDS
variable {d : Nat} {h : sm_H}
theorem me_newForm (hS : ab_Sh sx_sk h) (hf : mi_f h 13965 < 80) : me_E d 185 0 [some (.inr (.inr 109))] [] h (fun w h' => w = some (.inl (mi_f h 13965)) ∧ ab_Sh sx_sk h' ∧ ab_Fr [(13965, 13966), (16512, 16513), (16640, 16641)] h h' ∧ mi_f h' 13965 = mi_f h 13965 + 1 ∧ (∀ i, mi_a h' 129 i = if i = (mi_f h 13965).toNat then -1 else mi_a h 129 i) ∧ ∀ i, mi_a h' 130 i = if i = (mi_f h 13965).toNat then 0 else mi_a h 130 i) := by
  refine mt_nf hS ?_
  intro b
  exact ⟨by omega, fun h1 g1 g2 g3 g4 g5 => ⟨rfl, g1, g5, g2, g3, g4⟩⟩
theorem me_blame {zf zp : Int} (hS : ab_Sh sx_sk h) (f0 : 1 ≤ zf) (f1 : zf ≤ 9) (p0 : 0 ≤ zp) (p1 : zp ≤ 1000) (h0 : 0 ≤ mi_f h 13960) : me_E d 184 0 [some (.inr (.inr 109)), some (.inl zf), some (.inl zp)] [] h (fun w h' => w = none ∧ ab_Sh sx_sk h' ∧ ab_Fr [(13960, 13961)] h h' ∧ 0 < mi_f h' 13960) := by
  refine mt_bl hS ⟨by omega, by omega⟩ ⟨by omega, by omega⟩ ?_ ?_
  · intro b c h1 g1 g2
    have e := me_nil g2
    subst e
    exact ⟨rfl, g1, ab_Fr.refl, by omega⟩
  · intro b c
    refine ⟨by omega, fun h1 g1 g2 g3 => ⟨rfl, g1, g3, by omega⟩⟩
def bg_W : List (Nat × Nat) := [(13964, 13965), (16128, 16129), (16256, 16257), (16384, 16385), (16512, 16513), (16640, 16641), (18816, 18817), (19072, 19073), (19200, 19201), (19328, 19329)]
/-- begin: k the level, f its form, a the new alternative -/
def bg_R (h h' : sm_H) : Prop :=
  mi_f h' 13964 = mi_f h 13964 + 1 ∧
  (∀ i, mi_a h' 126 i = if i = (mi_f h 13964).toNat then -1 else mi_a h 126 i) ∧
  (∀ i, mi_a h' 128 i = if mi_a h 130 (mi_a h 146 (mi_f h 14003).toNat).toNat ≠ 0 ∧ i = (mi_a h 147 (mi_f h 14003).toNat).toNat then mi_f h 13964 else if i = (mi_f h 13964).toNat then -1 else mi_a h 128 i) ∧
  (∀ i, mi_a h' 129 i = if mi_a h 130 (mi_a h 146 (mi_f h 14003).toNat).toNat = 0 ∧ i = (mi_a h 146 (mi_f h 14003).toNat).toNat then mi_f h 13964 else mi_a h 129 i) ∧
  (∀ i, mi_a h' 130 i = if i = (mi_a h 146 (mi_f h 14003).toNat).toNat then mi_a h 130 i + 1 else mi_a h 130 i) ∧
  (∀ i, mi_a h' 147 i = if i = (mi_f h 14003).toNat then mi_f h 13964 else mi_a h 147 i) ∧
  (∀ i, mi_a h' 149 i = if i = (mi_f h 14003).toNat then -1 else mi_a h 149 i) ∧
  (∀ i, mi_a h' 150 i = if i = (mi_f h 14003).toNat then -1 else mi_a h 150 i) ∧
  (∀ i, mi_a h' 151 i = if i = (mi_f h 14003).toNat then 0 else mi_a h 151 i)
theorem me_begin {zp : Int} (hS : ab_Sh sx_sk h) (op : mi_in zp) (ha : mi_f h 13964 < 80) (hk : mi_f h 14003 < 6) (hf0 : 0 ≤ mi_a h 146 (mi_f h 14003).toNat) (hf1 : mi_a h 146 (mi_f h 14003).toNat < 80) (hc : mi_a h 130 (mi_a h 146 (mi_f h 14003).toNat).toNat ≤ 6) (hb : mi_a h 130 (mi_a h 146 (mi_f h 14003).toNat).toNat ≠ 0 → 0 ≤ mi_a h 147 (mi_f h 14003).toNat ∧ mi_a h 147 (mi_f h 14003).toNat < 80) : me_E d 187 0 [some (.inr (.inr 109)), some (.inl zp), none, none] [] h (fun w h' => w = none ∧ ab_Sh sx_sk h' ∧ ab_Fr bg_W h h' ∧ bg_R h h') := by
  have b130 := me_ab (k := 130) (i := (mi_a h 146 (mi_f h 14003).toNat).toNat) hS rfl (by decide) (by omega)
  have b3 := me_fb (c := 14003) hS rfl
  have b4 := me_fb (c := 13964) hS rfl
  refine mt_bgA hS op ?_ ?_
  · intro b1 b2 c
    have hb := hb c
    refine ⟨by omega, fun h1 g1 g2 g3 g4 g5 g6 => ?_⟩
    have e3 : mi_f h1 14003 = mi_f h 14003 := me_f (c := 14003) g6 hS rfl rfl
    have e130 : ∀ i, mi_a h1 130 i = mi_a h 130 i := fun i => me_a (k := 130) g6 hS rfl rfl
    refine mt_bgB g1 op ⟨by omega, by omega⟩ ⟨by omega, by omega⟩ ?_
    intro b5
    refine ⟨by rw [e130]; omega, fun h2 r1 r2 r3 r4 r5 r6 r7 => ⟨rfl, r1, (g6.wide (fun c hc => ab_swr_ok (by decide) hc)).trans (r7.wide (fun c hc => ab_swr_ok (by decide) hc)), (me_f (c := 13964) r7 g1 rfl rfl).trans g2, fun i => ?_, fun i => ?_, fun i => ?_, fun i => ?_, fun i => ?_, fun i => ?_, fun i => ?_, fun i => ?_⟩⟩
    · rw [me_a (k := 126) r7 g1 rfl rfl, g3]
    · rw [me_a (k := 128) r7 g1 rfl rfl, g5]
      by_cases e : i = (mi_a h 147 (mi_f h 14003).toNat).toNat
      · rw [if_pos e, if_pos ⟨c, e⟩]
      · rw [if_neg e, if_neg (c := mi_a h 130 (mi_a h 146 (mi_f h 14003).toNat).toNat ≠ 0 ∧ i = (mi_a h 147 (mi_f h 14003).toNat).toNat) (fun z => e z.2)]
    · rw [me_a (k := 129) r7 g1 rfl rfl, me_a (k := 129) g6 hS rfl rfl, if_neg (fun z => c z.1)]
    · rw [r2, e130, e130]
      by_cases e : i = (mi_a h 146 (mi_f h 14003).toNat).toNat
      · rw [if_pos e, if_pos e, e]
      · rw [if_neg e, if_neg e]
    · rw [r3, e3, me_a (k := 147) g6 hS rfl rfl]
    · rw [r4, e3, me_a (k := 149) g6 hS rfl rfl]
    · rw [r5, e3, me_a (k := 150) g6 hS rfl rfl]
    · rw [r6, e3, me_a (k := 151) g6 hS rfl rfl]
  · intro b1 b2 c
    refine ⟨by omega, fun h1 g1 g2 g3 g4 g5 g6 g7 => ?_⟩
    have e3 : mi_f h1 14003 = mi_f h 14003 := me_f (c := 14003) g7 hS rfl rfl
    have e130 : ∀ i, mi_a h1 130 i = mi_a h 130 i := fun i => me_a (k := 130) g7 hS rfl rfl
    refine mt_bgB g1 op ⟨by omega, by omega⟩ ⟨by omega, by omega⟩ ?_
    intro b5
    refine ⟨by rw [e130]; omega, fun h2 r1 r2 r3 r4 r5 r6 r7 => ⟨rfl, r1, (g7.wide (fun c hc => ab_swr_ok (by decide) hc)).trans (r7.wide (fun c hc => ab_swr_ok (by decide) hc)), (me_f (c := 13964) r7 g1 rfl rfl).trans g2, fun i => ?_, fun i => ?_, fun i => ?_, fun i => ?_, fun i => ?_, fun i => ?_, fun i => ?_, fun i => ?_⟩⟩
    · rw [me_a (k := 126) r7 g1 rfl rfl, g3]
    · rw [me_a (k := 128) r7 g1 rfl rfl, g5, if_neg (c := mi_a h 130 (mi_a h 146 (mi_f h 14003).toNat).toNat ≠ 0 ∧ i = (mi_a h 147 (mi_f h 14003).toNat).toNat) (fun z => z.1 c)]
    · rw [me_a (k := 129) r7 g1 rfl rfl, g6]
      by_cases e : i = (mi_a h 146 (mi_f h 14003).toNat).toNat
      · rw [if_pos e, if_pos ⟨c, e⟩]
      · rw [if_neg e, if_neg (fun z => e z.2)]
    · rw [r2, e130, e130]
      by_cases e : i = (mi_a h 146 (mi_f h 14003).toNat).toNat
      · rw [if_pos e, if_pos e, e]
      · rw [if_neg e, if_neg e]
    · rw [r3, e3, me_a (k := 147) g7 hS rfl rfl]
    · rw [r4, e3, me_a (k := 149) g7 hS rfl rfl]
    · rw [r5, e3, me_a (k := 150) g7 hS rfl rfl]
    · rw [r6, e3, me_a (k := 151) g7 hS rfl rfl]
def pu_W : List (Nat × Nat) := [(15872, 15873), (16000, 16001), (16128, 16129), (19072, 19073), (19200, 19201), (19328, 19329)]
/-- put: k the level -/
def pu_R (zu : Int) (h h' : sm_H) : Prop :=
  (∀ i, mi_a h' 124 i = if mi_a h 151 (mi_f h 14003).toNat ≠ 0 ∧ i = (mi_a h 149 (mi_f h 14003).toNat).toNat then zu else mi_a h 124 i) ∧
  (∀ i, mi_a h' 125 i = if mi_a h 151 (mi_f h 14003).toNat = 0 ∧ 0 ≤ mi_a h 149 (mi_f h 14003).toNat ∧ i = (mi_a h 149 (mi_f h 14003).toNat).toNat then zu else mi_a h 125 i) ∧
  (∀ i, mi_a h' 126 i = if mi_a h 151 (mi_f h 14003).toNat = 0 ∧ mi_a h 149 (mi_f h 14003).toNat < 0 ∧ i = (mi_a h 147 (mi_f h 14003).toNat).toNat then zu else mi_a h 126 i) ∧
  (∀ i, mi_a h' 149 i = if mi_a h 151 (mi_f h 14003).toNat = 0 ∧ i = (mi_f h 14003).toNat then zu else mi_a h 149 i) ∧
  (∀ i, mi_a h' 150 i = if i = (mi_f h 14003).toNat then zu else mi_a h 150 i) ∧
  (∀ i, mi_a h' 151 i = if i = (mi_f h 14003).toNat then 0 else mi_a h 151 i)
theorem pu75 {h0 : sm_H} {zu : Int} {wr : List (Nat × Nat)} (hS0 : ab_Sh sx_sk h0) (hS : ab_Sh sx_sk h) (hF : ab_Fr wr h0 h) (hw : (ab_in wr 14003 || ab_in wr 19072 || ab_in wr 19200 || ab_in wr 19328) = false) (hw2 : ab_sub_wr wr pu_W = true) (u0 : 0 ≤ zu) (u1 : zu < 60) (hk : mi_f h0 14003 < 6) (hl : mi_a h0 151 (mi_f h0 14003).toNat ≠ 0 → 0 ≤ mi_a h0 149 (mi_f h0 14003).toNat ∧ mi_a h0 149 (mi_f h0 14003).toNat < 60) : me_E d 192 75 [some (.inr (.inr 109)), some (.inl zu)] [] h (fun w h' => w = none ∧ ab_Sh sx_sk h' ∧ ab_Fr pu_W h0 h' ∧ (∀ i, mi_a h' 124 i = mi_a h 124 i) ∧ (∀ i, mi_a h' 125 i = mi_a h 125 i) ∧ (∀ i, mi_a h' 126 i = mi_a h 126 i) ∧ (∀ i, mi_a h' 149 i = if mi_a h0 151 (mi_f h0 14003).toNat = 0 ∧ i = (mi_f h0 14003).toNat then zu else mi_a h0 149 i) ∧ (∀ i, mi_a h' 150 i = if i = (mi_f h0 14003).toNat then zu else mi_a h0 150 i) ∧ ∀ i, mi_a h' 151 i = if i = (mi_f h0 14003).toNat then 0 else mi_a h0 151 i) := by
  simp only [Bool.or_eq_false_iff] at hw
  have e3 : mi_f h 14003 = mi_f h0 14003 := me_f (c := 14003) hF hS0 rfl hw.1.1.1
  have e149 : ∀ i, mi_a h 149 i = mi_a h0 149 i := fun i => me_a (k := 149) hF hS0 rfl hw.1.1.2
  have e150 : ∀ i, mi_a h 150 i = mi_a h0 150 i := fun i => me_a (k := 150) hF hS0 rfl hw.1.2
  have e151 : ∀ i, mi_a h 151 i = mi_a h0 151 i := fun i => me_a (k := 151) hF hS0 rfl hw.2
  refine mt_puB hS ⟨by omega, by omega⟩ ?_ ?_
  · intro b c
    rw [e3, e151] at c
    refine ⟨by omega, fun h1 g1 g2 g3 g4 g5 => ⟨rfl, g1, (hF.wide (fun c hc => ab_swr_ok hw2 hc)).trans (g5.wide (fun c hc => ab_swr_ok (by decide) hc)), fun i => me_a (k := 124) g5 hS rfl rfl, fun i => me_a (k := 125) g5 hS rfl rfl, fun i => me_a (k := 126) g5 hS rfl rfl, fun i => ?_, fun i => ?_, fun i => ?_⟩⟩
    · rw [g2, e3, e149]
      by_cases e : i = (mi_f h0 14003).toNat
      · rw [if_pos e, if_pos ⟨c, e⟩]
      · rw [if_neg e, if_neg (fun z => e z.2)]
    · rw [g3, e3, e150]
    · rw [g4, e3, e151]
  · intro b c
    rw [e3, e151] at c
    have hl := hl c
    refine ⟨by rw [e3, e149]; omega, fun h1 g1 g2 g3 g4 g5 => ⟨rfl, g1, (hF.wide (fun c hc => ab_swr_ok hw2 hc)).trans (g5.wide (fun c hc => ab_swr_ok (by decide) hc)), fun i => me_a (k := 124) g5 hS rfl rfl, fun i => me_a (k := 125) g5 hS rfl rfl, fun i => me_a (k := 126) g5 hS rfl rfl, fun i => ?_, fun i => ?_, fun i => ?_⟩⟩
    · rw [g2, e3, e149, e149, if_neg (c := mi_a h0 151 (mi_f h0 14003).toNat = 0 ∧ i = (mi_f h0 14003).toNat) (fun z => c z.1)]
      by_cases e : i = (mi_f h0 14003).toNat
      · rw [if_pos e, e]
      · rw [if_neg e]
    · rw [g3, e3, e150]
    · rw [g4, e3, e151]
theorem me_put {zu : Int} (hS : ab_Sh sx_sk h) (u0 : 0 ≤ zu) (u1 : zu < 60) (hk : mi_f h 14003 < 6) (hl : mi_a h 151 (mi_f h 14003).toNat ≠ 0 → 0 ≤ mi_a h 149 (mi_f h 14003).toNat) (hl2 : mi_a h 149 (mi_f h 14003).toNat < 60) (ha : 0 ≤ mi_a h 147 (mi_f h 14003).toNat ∧ mi_a h 147 (mi_f h 14003).toNat < 80) : me_E d 192 0 [some (.inr (.inr 109)), some (.inl zu)] [] h (fun w h' => w = none ∧ ab_Sh sx_sk h' ∧ ab_Fr pu_W h h' ∧ pu_R zu h h') := by
  have b3 := me_fb (c := 14003) hS rfl
  have hl' : mi_a h 151 (mi_f h 14003).toNat ≠ 0 → 0 ≤ mi_a h 149 (mi_f h 14003).toNat ∧ mi_a h 149 (mi_f h 14003).toNat < 60 := fun z => ⟨hl z, hl2⟩
  refine mt_puA hS ⟨by omega, by omega⟩ ?_ ?_ ?_
  · intro b c1 c2
    refine ⟨by omega, fun h1 g1 g2 g3 => (pu75 (h0 := h) hS g1 g3 rfl rfl u0 u1 hk hl').imp (fun w h' hq => ?_)⟩
    obtain ⟨q1, q2, q3, q4, q5, q6, q7, q8, q9⟩ := hq
    refine ⟨q1, q2, q3, fun i => ?_, fun i => ?_, fun i => ?_, q7, q8, q9⟩
    · rw [q4, me_a (k := 124) g3 hS rfl rfl, if_neg (fun z => z.1 c1)]
    · rw [q5, g2]
      by_cases e : i = (mi_a h 149 (mi_f h 14003).toNat).toNat
      · rw [if_pos e, if_pos ⟨c1, c2, e⟩]
      · rw [if_neg e, if_neg (fun z => e z.2.2)]
    · rw [q6, me_a (k := 126) g3 hS rfl rfl, if_neg (fun z => by have := z.2.1; omega)]
  · intro b c1 c2
    refine ⟨by omega, fun h1 g1 g2 g3 => (pu75 (h0 := h) hS g1 g3 rfl rfl u0 u1 hk hl').imp (fun w h' hq => ?_)⟩
    obtain ⟨q1, q2, q3, q4, q5, q6, q7, q8, q9⟩ := hq
    refine ⟨q1, q2, q3, fun i => ?_, fun i => ?_, fun i => ?_, q7, q8, q9⟩
    · rw [q4, me_a (k := 124) g3 hS rfl rfl, if_neg (fun z => z.1 c1)]
    · rw [q5, me_a (k := 125) g3 hS rfl rfl, if_neg (fun z => by have := z.2.1; omega)]
    · rw [q6, g2]
      by_cases e : i = (mi_a h 147 (mi_f h 14003).toNat).toNat
      · rw [if_pos e, if_pos ⟨c1, c2, e⟩]
      · rw [if_neg e, if_neg (fun z => e z.2.2)]
  · intro b c1
    have := hl c1
    refine ⟨by omega, fun h1 g1 g2 g3 => (pu75 (h0 := h) hS g1 g3 rfl rfl u0 u1 hk hl').imp (fun w h' hq => ?_)⟩
    obtain ⟨q1, q2, q3, q4, q5, q6, q7, q8, q9⟩ := hq
    refine ⟨q1, q2, q3, fun i => ?_, fun i => ?_, fun i => ?_, q7, q8, q9⟩
    · rw [q4, g2]
      by_cases e : i = (mi_a h 149 (mi_f h 14003).toNat).toNat
      · rw [if_pos e, if_pos ⟨c1, e⟩]
      · rw [if_neg e, if_neg (fun z => e z.2)]
    · rw [q5, me_a (k := 125) g3 hS rfl rfl, if_neg (fun z => c1 z.1)]
    · rw [q6, me_a (k := 126) g3 hS rfl rfl, if_neg (fun z => c1 z.1)]
end RDS
/-! READING: what holds while a description is read. g: the arrays; Y: the walk's ghosts (wk_Y); ow, ix: of an alternative its form and its place there; A: alternatives; k: the level -/
abbrev rd_Z : Type := (Int → Int) × (Int → Int) × Int × Int
def rd_ow (z : rd_Z) (a : Int) : Int := z.1 a
def rd_ix (z : rd_Z) (a : Int) : Int := z.2.1 a
def rd_a (z : rd_Z) : Int := z.2.2.1
def rd_k (z : rd_Z) : Int := z.2.2.2
/-- a unit: as wk_Lunit, but a use's rule may still be wanting -/
def rd_unit (g : wk_g) (Y : wk_Y) (u : Int) : Prop :=
  (u < wk_e Y u ∧ wk_e Y u ≤ wk_x Y (wk_c Y u) ∧ wk_b Y (wk_c Y u) < u ∧ 0 ≤ wk_c Y u ∧ wk_c Y u < wk_f Y) ∧
  (0 ≤ g 124 u.toNat → g 124 u.toNat < wk_u Y ∧ wk_c Y (g 124 u.toNat) = wk_c Y u ∧ wk_e Y u ≤ g 124 u.toNat ∧ g 124 (g 124 u.toNat).toNat < 0) ∧
  (0 ≤ g 125 u.toNat → g 125 u.toNat < wk_u Y ∧ wk_c Y (g 125 u.toNat) = wk_c Y u ∧ wk_e Y u ≤ g 125 u.toNat ∧ (0 ≤ g 124 u.toNat → wk_e Y (g 124 u.toNat) ≤ g 125 u.toNat)) ∧
  (g 119 u.toNat = 9 → 0 ≤ g 120 u.toNat ∧ g 120 u.toNat < 26) ∧
  (g 119 u.toNat = 10 → 0 ≤ g 120 u.toNat ∧ g 120 u.toNat < wk_f Y ∧ wk_x Y (g 120 u.toNat) - wk_b Y (g 120 u.toNat) ≤ wk_e Y u - u ∧ wk_d Y (g 120 u.toNat) = wk_d Y (wk_c Y u) + 1) ∧
  (g 119 u.toNat = 8 → 0 ≤ g 120 u.toNat ∧ g 120 u.toNat < 20)
/-- a form and its alternatives; a form just made has none yet (m = 0) -/
def rd_form (g : wk_g) (Y : wk_Y) (z : rd_Z) (m f : Int) : Prop :=
  0 ≤ wk_d Y f ∧ wk_d Y f ≤ 4 ∧ m ≤ g 130 f.toNat ∧ 0 ≤ g 130 f.toNat ∧ wk_alt g (g 130 f.toNat).toNat (g 129 f.toNat) < 0 ∧ wk_b Y f < wk_x Y f ∧ wk_x Y f ≤ 60 ∧
  ∀ j : Nat, (j : Int) < g 130 f.toNat → 0 ≤ wk_alt g j (g 129 f.toNat) ∧ wk_alt g j (g 129 f.toNat) < rd_a z ∧ rd_ow z (wk_alt g j (g 129 f.toNat)) = f ∧ rd_ix z (wk_alt g j (g 129 f.toNat)) = j
def rd_alt (g : wk_g) (Y : wk_Y) (z : rd_Z) (a : Int) : Prop := g 126 a.toNat < 0 ∨ (g 126 a.toNat < wk_u Y ∧ wk_c Y (g 126 a.toNat) = rd_ow z a)
/-- where a level's units end: at the unit of the next level, or at all units -/
def rd_top (g : wk_g) (Y : wk_Y) (z : rd_Z) (i : Int) : Int := if i < rd_k z then g 148 (i + 1).toNat else wk_u Y
/-- an open level: its form, its alternative, its last item -/
def rd_lev (g : wk_g) (Y : wk_Y) (z : rd_Z) (i : Int) : Prop :=
  (0 ≤ g 146 i.toNat ∧ g 146 i.toNat < wk_f Y ∧ wk_d Y (g 146 i.toNat) = i ∧ wk_x Y (g 146 i.toNat) = 60) ∧
  (0 < g 130 (g 146 i.toNat).toNat → 0 ≤ g 147 i.toNat ∧ g 147 i.toNat < rd_a z ∧ g 147 i.toNat = wk_alt g ((g 130 (g 146 i.toNat).toNat).toNat - 1) (g 129 (g 146 i.toNat).toNat)) ∧
  (∀ u, 0 ≤ u → u < wk_u Y → wk_c Y u = g 146 i.toNat → wk_e Y u ≤ rd_top g Y z i ∨ (i < rd_k z ∧ u = g 148 (i + 1).toNat)) ∧
  (0 ≤ g 149 i.toNat → g 149 i.toNat < wk_u Y ∧ wk_c Y (g 149 i.toNat) = g 146 i.toNat ∧ wk_e Y (g 149 i.toNat) ≤ rd_top g Y z i ∧ g 125 (g 149 i.toNat).toNat < 0 ∧ (0 ≤ g 124 (g 149 i.toNat).toNat → wk_e Y (g 124 (g 149 i.toNat).toNat) ≤ rd_top g Y z i) ∧ ∀ w, 0 ≤ w → w < wk_u Y → g 124 w.toNat ≠ g 149 i.toNat) ∧
  (g 151 i.toNat ≠ 0 → 0 ≤ g 149 i.toNat ∧ g 124 (g 149 i.toNat).toNat < 0) ∧
  g 150 i.toNat < wk_u Y
/-- the unit of an open group -/
def rd_grp (g : wk_g) (Y : wk_Y) (i : Int) : Prop :=
  0 ≤ g 148 i.toNat ∧ g 148 i.toNat < wk_u Y ∧ wk_c Y (g 148 i.toNat) = g 146 (i - 1).toNat ∧ g 119 (g 148 i.toNat).toNat = 10 ∧ g 120 (g 148 i.toNat).toNat = g 146 i.toNat ∧ wk_e Y (g 148 i.toNat) = 60 ∧ wk_b Y (g 146 i.toNat) = g 148 i.toNat ∧ g 124 (g 148 i.toNat).toNat < 0 ∧ g 125 (g 148 i.toNat).toNat < 0 ∧ ∀ w, 0 ≤ w → w < wk_u Y → g 124 w.toNat ≠ g 148 i.toNat
/-- all of it; m as in rd_form, for the form of the top level -/
def rd_I (g : wk_g) (Y : wk_Y) (z : rd_Z) (m : Int) : Prop :=
  (0 ≤ wk_u Y ∧ wk_u Y ≤ 60 ∧ 0 ≤ wk_f Y ∧ wk_f Y ≤ 80 ∧ 0 ≤ rd_a z ∧ rd_a z ≤ 80 ∧ rd_k z ≤ 4) ∧
  (∀ u, 0 ≤ u → u < wk_u Y → rd_unit g Y u) ∧
  (∀ f, 0 ≤ f → f < wk_f Y → rd_form g Y z (if 0 ≤ rd_k z ∧ f = g 146 (rd_k z).toNat then m else 1) f) ∧
  (∀ a, 0 ≤ a → a < rd_a z → rd_alt g Y z a) ∧
  (∀ i, 0 ≤ i → i ≤ rd_k z → rd_lev g Y z i) ∧
  (∀ i, 1 ≤ i → i ≤ rd_k z → rd_grp g Y i)
section RDI
variable {g : wk_g} {Y : wk_Y} {z : rd_Z}
/-- in the end the walk's laws hold -/
theorem rd_L (hI : rd_I g Y z 1) (hr : ∀ u, 0 ≤ u → u < wk_u Y → g 119 u.toNat = 9 → 0 ≤ g 115 (g 120 u.toNat).toNat ∧ g 115 (g 120 u.toNat).toNat < 10 ∧ wk_Lrule Y (wk_rf g u)) : wk_L g Y := by
  obtain ⟨⟨n1, n2, n3, n4, n5, n6, n7⟩, i1, i2, i3, -⟩ := hI
  refine ⟨n2, n4, fun u h0 h1 => ?_, fun f h0 h1 => ?_⟩
  · obtain ⟨a1, a2, a3, a4, a5, a6⟩ := i1 u h0 h1
    refine ⟨a1, a2, a3, fun h9 => ?_, a5, a6⟩
    obtain ⟨b1, b2⟩ := a4 h9
    obtain ⟨c1, c2, c3⟩ := hr u h0 h1 h9
    exact ⟨b1, b2, c1, c2, c3⟩
  · obtain ⟨a1, a2, a3, -, a4, a5, -, a6⟩ := i2 f h0 h1
    have a3 : 1 ≤ g 130 f.toNat := by split at a3 <;> exact a3
    refine ⟨a1, a2, a3, a4, a5, fun j hj => ?_⟩
    obtain ⟨b1, b2, b3, -⟩ := a6 j hj
    refine ⟨b1, by omega, ?_⟩
    rcases i3 _ b1 b2 with x | x
    · exact Or.inl x
    · exact Or.inr ⟨x.1, x.2.trans b3⟩
end RDI
/-! reading: the chain of a form's alternatives, when one more begins -/
section RDC
variable {g g' : wk_g} {Y : wk_Y} {z : rd_Z} {m f A oa : Int}
/-- the chain of another form stays -/
theorem rd_ch_o {f0 : Int} (hf : rd_form g Y z m f0) (hA : rd_a z = A) (h128 : ∀ i : Nat, g' 128 i = if g 130 f.toNat ≠ 0 ∧ i = oa.toNat then A else if i = A.toNat then -1 else g 128 i) (h129 : g' 129 f0.toNat = g 129 f0.toNat) (hoa : g 130 f.toNat ≠ 0 → 0 ≤ oa ∧ rd_ow z oa = f) (hne : f0 ≠ f) : ∀ j : Nat, (j : Int) ≤ g 130 f0.toNat → wk_alt g' j (g' 129 f0.toNat) = wk_alt g j (g 129 f0.toNat) := by
  intro j
  induction j with
  | zero => intro _; exact h129
  | succ j ih =>
    intro hj
    obtain ⟨b1, b2, b3, -⟩ := hf.2.2.2.2.2.2.2 j (by omega)
    rw [wk_alt_succ, wk_alt_succ, ih (by omega), h128, if_neg, if_neg]
    · omega
    · rintro ⟨c1, c2⟩
      obtain ⟨d1, d2⟩ := hoa c1
      have e : wk_alt g j (g 129 f0.toNat) = oa := by omega
      rw [e, d2] at b3
      exact hne b3.symm
/-- the chain of the form itself: first of it -/
theorem rd_ch_0 (hA : 0 ≤ A) (h0 : g 130 f.toNat = 0) (h128 : ∀ i : Nat, g' 128 i = if g 130 f.toNat ≠ 0 ∧ i = oa.toNat then A else if i = A.toNat then -1 else g 128 i) (h129 : g' 129 f.toNat = A) : wk_alt g' 0 (g' 129 f.toNat) = A ∧ wk_alt g' 1 (g' 129 f.toNat) = -1 := by
  refine ⟨h129, ?_⟩
  show g' 128 (g' 129 f.toNat).toNat = -1
  rw [h129, h128, if_neg (fun c => c.1 h0), if_pos rfl]
/-- .. one more of it -/
theorem rd_ch_1 (hf : rd_form g Y z m f) (hA : rd_a z = A) (hn : 0 < g 130 f.toNat) (h128 : ∀ i : Nat, g' 128 i = if g 130 f.toNat ≠ 0 ∧ i = oa.toNat then A else if i = A.toNat then -1 else g 128 i) (h129 : g' 129 f.toNat = g 129 f.toNat) (hoa : oa = wk_alt g ((g 130 f.toNat).toNat - 1) (g 129 f.toNat)) : (∀ j : Nat, (j : Int) < g 130 f.toNat → wk_alt g' j (g' 129 f.toNat) = wk_alt g j (g 129 f.toNat)) ∧ wk_alt g' (g 130 f.toNat).toNat (g' 129 f.toNat) = A ∧ wk_alt g' ((g 130 f.toNat).toNat + 1) (g' 129 f.toNat) = -1 := by
  have law := hf.2.2.2.2.2.2.2
  have ho := law ((g 130 f.toNat).toNat - 1) (by omega)
  rw [← hoa] at ho
  obtain ⟨o1, o2, o3, o4⟩ := ho
  have low : ∀ j : Nat, (j : Int) < g 130 f.toNat → wk_alt g' j (g' 129 f.toNat) = wk_alt g j (g 129 f.toNat) := by
    intro j
    induction j with
    | zero => intro _; exact h129
    | succ j ih =>
      intro hj
      obtain ⟨b1, b2, b3, b4⟩ := law j (by omega)
      rw [wk_alt_succ, wk_alt_succ, ih (by omega), h128, if_neg, if_neg]
      · omega
      · rintro ⟨-, c2⟩
        have e : wk_alt g j (g 129 f.toNat) = oa := by omega
        rw [e, o4] at b4
        omega
  have e1 : (g 130 f.toNat).toNat = ((g 130 f.toNat).toNat - 1) + 1 := by omega
  have mid : wk_alt g' (g 130 f.toNat).toNat (g' 129 f.toNat) = A := by
    rw [e1, wk_alt_succ, low _ (by omega), ← hoa, h128, if_pos ⟨by omega, rfl⟩]
  refine ⟨low, mid, ?_⟩
  rw [wk_alt_succ, mid, h128, if_neg (fun c => by have := c.2; omega), if_pos rfl]
end RDC
/-! reading: an alternative begins -/
/-- before an alternative begins: nothing is asked of the top level's last item -/
def rd_lev0 (g : wk_g) (Y : wk_Y) (z : rd_Z) (i : Int) : Prop :=
  (0 ≤ g 146 i.toNat ∧ g 146 i.toNat < wk_f Y ∧ wk_d Y (g 146 i.toNat) = i ∧ wk_x Y (g 146 i.toNat) = 60) ∧
  (0 < g 130 (g 146 i.toNat).toNat → 0 ≤ g 147 i.toNat ∧ g 147 i.toNat < rd_a z ∧ g 147 i.toNat = wk_alt g ((g 130 (g 146 i.toNat).toNat).toNat - 1) (g 129 (g 146 i.toNat).toNat)) ∧
  (∀ u, 0 ≤ u → u < wk_u Y → wk_c Y u = g 146 i.toNat → wk_e Y u ≤ rd_top g Y z i ∨ (i < rd_k z ∧ u = g 148 (i + 1).toNat))
def rd_J (g : wk_g) (Y : wk_Y) (z : rd_Z) (m : Int) : Prop :=
  (0 ≤ wk_u Y ∧ wk_u Y ≤ 60 ∧ 0 ≤ wk_f Y ∧ wk_f Y ≤ 80 ∧ 0 ≤ rd_a z ∧ rd_a z ≤ 80 ∧ rd_k z ≤ 4) ∧
  (∀ u, 0 ≤ u → u < wk_u Y → rd_unit g Y u) ∧
  (∀ f, 0 ≤ f → f < wk_f Y → rd_form g Y z (if 0 ≤ rd_k z ∧ f = g 146 (rd_k z).toNat then m else 1) f) ∧
  (∀ a, 0 ≤ a → a < rd_a z → rd_alt g Y z a) ∧
  (∀ i, 0 ≤ i → i ≤ rd_k z → rd_lev0 g Y z i) ∧
  (∀ i, 0 ≤ i → i < rd_k z → rd_lev g Y z i) ∧
  (∀ i, 1 ≤ i → i ≤ rd_k z → rd_grp g Y i)
theorem rd_I_J {g : wk_g} {Y : wk_Y} {z : rd_Z} {m : Int} (h : rd_I g Y z m) : rd_J g Y z m := by
  obtain ⟨a, b, c, e, f, k⟩ := h
  exact ⟨a, b, c, e, fun i h0 h1 => ⟨(f i h0 h1).1, (f i h0 h1).2.1, (f i h0 h1).2.2.1⟩, fun i h0 h1 => f i h0 (by omega), k⟩
section RDB
variable {g g' : wk_g} {Y : wk_Y} {z : rd_Z} {m : Int}
def rd_zb (g : wk_g) (z : rd_Z) : rd_Z := (fun a => if a = rd_a z then g 146 (rd_k z).toNat else rd_ow z a, fun a => if a = rd_a z then g 130 (g 146 (rd_k z).toNat).toNat else rd_ix z a, rd_a z + 1, rd_k z)
theorem rd_begin (hI : rd_J g Y z m) (hk : 0 ≤ rd_k z) (hA : rd_a z < 80)
    (s : ∀ j, j ∈ [115, 119, 120, 124, 125, 146, 148] → ∀ i, g' j i = g j i)
    (h126 : ∀ i : Nat, g' 126 i = if i = (rd_a z).toNat then -1 else g 126 i)
    (h128 : ∀ i : Nat, g' 128 i = if g 130 (g 146 (rd_k z).toNat).toNat ≠ 0 ∧ i = (g 147 (rd_k z).toNat).toNat then rd_a z else if i = (rd_a z).toNat then -1 else g 128 i)
    (h129 : ∀ i : Nat, g' 129 i = if g 130 (g 146 (rd_k z).toNat).toNat = 0 ∧ i = (g 146 (rd_k z).toNat).toNat then rd_a z else g 129 i)
    (h130 : ∀ i : Nat, g' 130 i = if i = (g 146 (rd_k z).toNat).toNat then g 130 i + 1 else g 130 i)
    (h147 : ∀ i : Nat, g' 147 i = if i = (rd_k z).toNat then rd_a z else g 147 i)
    (h149 : ∀ i : Nat, g' 149 i = if i = (rd_k z).toNat then -1 else g 149 i)
    (h150 : ∀ i : Nat, g' 150 i = if i = (rd_k z).toNat then -1 else g 150 i)
    (h151 : ∀ i : Nat, g' 151 i = if i = (rd_k z).toNat then 0 else g 151 i) : rd_I g' Y (rd_zb g z) 1 := by
  obtain ⟨⟨n1, n2, n3, n4, n5, n6, n7⟩, i1, i2, i3, i4, i4b, i5⟩ := hI
  have e119 := s 119 (by decide)
  have e120 := s 120 (by decide)
  have e124 := s 124 (by decide)
  have e125 := s 125 (by decide)
  have e146 := s 146 (by decide)
  have e148 := s 148 (by decide)
  have lk := i4 (rd_k z) hk (Int.le_refl _)
  obtain ⟨⟨f0, f1, f2, f3⟩, l2, l3⟩ := id lk
  have ff := i2 _ f0 f1
  rw [if_pos ⟨hk, rfl⟩] at ff
  have hoa : g 130 (g 146 (rd_k z).toNat).toNat ≠ 0 → 0 ≤ g 147 (rd_k z).toNat ∧ rd_ow z (g 147 (rd_k z).toNat) = g 146 (rd_k z).toNat := fun c => by
    have hpos : 0 < g 130 (g 146 (rd_k z).toNat).toNat := by have := ff.2.2.2.1; omega
    obtain ⟨a1, a2, a3⟩ := l2 hpos
    obtain ⟨b1, b2, b3, b4⟩ := ff.2.2.2.2.2.2.2 ((g 130 (g 146 (rd_k z).toNat).toNat).toNat - 1) (by omega)
    rw [← a3] at b3
    exact ⟨a1, b3⟩
  have oth : ∀ f, 0 ≤ f → f < wk_f Y → f ≠ g 146 (rd_k z).toNat → g' 130 f.toNat = g 130 f.toNat ∧ ∀ j : Nat, (j : Int) ≤ g 130 f.toNat → wk_alt g' j (g' 129 f.toNat) = wk_alt g j (g 129 f.toNat) := fun f h0 h1 hne => by
    refine ⟨by rw [h130, if_neg (by omega)], rd_ch_o (i2 f h0 h1) rfl h128 ?_ hoa hne⟩
    rw [h129, if_neg (fun c => by have := c.2; omega)]
  have zk : rd_k (rd_zb g z) = rd_k z := rfl
  have za : rd_a (rd_zb g z) = rd_a z + 1 := rfl
  have zo : ∀ a, a < rd_a z → rd_ow (rd_zb g z) a = rd_ow z a := fun a ha => if_neg (show ¬ a = rd_a z by omega)
  have zi : ∀ a, a < rd_a z → rd_ix (rd_zb g z) a = rd_ix z a := fun a ha => if_neg (show ¬ a = rd_a z by omega)
  have zoA : rd_ow (rd_zb g z) (rd_a z) = g 146 (rd_k z).toNat := if_pos rfl
  have ziA : rd_ix (rd_zb g z) (rd_a z) = g 130 (g 146 (rd_k z).toNat).toNat := if_pos rfl
  refine ⟨⟨n1, n2, n3, n4, by rw [za]; omega, by rw [za]; omega, n7⟩, fun u h0 h1 => ?_, fun f h0 h1 => ?_, fun a h0 h1 => ?_, fun i h0 h1 => ?_, fun i h0 h1 => ?_⟩
  · have := i1 u h0 h1
    unfold rd_unit at this ⊢
    simp only [e119, e120, e124, e125]
    exact this
  · rw [show (if 0 ≤ rd_k (rd_zb g z) ∧ f = g' 146 (rd_k (rd_zb g z)).toNat then (1 : Int) else 1) = 1 from by split <;> rfl]
    by_cases hne : f = g 146 (rd_k z).toNat
    · subst hne
      obtain ⟨p1, p2, p3, p4, p5, p6, p7, p8⟩ := ff
      have ec : g' 130 (g 146 (rd_k z).toNat).toNat = g 130 (g 146 (rd_k z).toNat).toNat + 1 := by rw [h130, if_pos rfl]
      by_cases c0 : g 130 (g 146 (rd_k z).toNat).toNat = 0
      · obtain ⟨q1, q2⟩ := rd_ch_0 (oa := g 147 (rd_k z).toNat) n5 c0 h128 (by rw [h129, if_pos ⟨c0, rfl⟩])
        have et : (g' 130 (g 146 (rd_k z).toNat).toNat).toNat = 1 := by omega
        refine ⟨p1, p2, by omega, by omega, by rw [et, q2]; decide, p6, p7, fun j hj => ?_⟩
        have ej : j = 0 := by omega
        subst ej
        rw [q1, za, zoA, ziA, c0]
        exact ⟨n5, by omega, rfl, rfl⟩
      · obtain ⟨a1, a2, a3⟩ := l2 (by omega)
        obtain ⟨q1, q2, q3⟩ := rd_ch_1 (i2 _ h0 h1) rfl (by omega) h128 (by rw [h129, if_neg (fun c => c0 c.1)]) a3
        have et : (g' 130 (g 146 (rd_k z).toNat).toNat).toNat = (g 130 (g 146 (rd_k z).toNat).toNat).toNat + 1 := by omega
        refine ⟨p1, p2, by omega, by omega, by rw [et, q3]; decide, p6, p7, fun j hj => ?_⟩
        by_cases ej : (j : Int) < g 130 (g 146 (rd_k z).toNat).toNat
        · obtain ⟨b1, b2, b3, b4⟩ := p8 j ej
          rw [q1 j ej, za, zo _ b2, zi _ b2]
          exact ⟨b1, by omega, b3, b4⟩
        · have ej2 : j = (g 130 (g 146 (rd_k z).toNat).toNat).toNat := by omega
          rw [ej2, q2, za, zoA, ziA]
          exact ⟨n5, by omega, rfl, by omega⟩
    · obtain ⟨o1, o2⟩ := oth f h0 h1 hne
      have hf := i2 f h0 h1
      rw [if_neg (fun c => hne c.2)] at hf
      obtain ⟨p1, p2, p3, p4, p5, p6, p7, p8⟩ := hf
      refine ⟨p1, p2, by omega, by omega, by rw [o1, o2 _ (by omega)]; exact p5, p6, p7, fun j hj => ?_⟩
      rw [o1] at hj
      obtain ⟨b1, b2, b3, b4⟩ := p8 j hj
      rw [o2 j (by omega), za, zo _ b2, zi _ b2]
      exact ⟨b1, by omega, b3, b4⟩
  · unfold rd_alt
    rw [za] at h1
    by_cases ha : a = rd_a z
    · rw [h126, if_pos (by rw [ha])]
      exact Or.inl (by decide)
    · rw [h126, if_neg (by omega), zo a (by omega)]
      exact i3 a h0 (by omega)
  · rw [zk] at h1
    have hl := i4 i h0 h1
    obtain ⟨⟨t0, t1, t2, t3⟩, r2, r3⟩ := hl
    have etop : rd_top g' Y (rd_zb g z) i = rd_top g Y z i := by
      unfold rd_top
      rw [zk, e148]
    unfold rd_lev
    simp only [e124, e125, e146, e148, etop, zk, za]
    by_cases hik : i = rd_k z
    · subst hik
      have eA : g' 147 (rd_k z).toNat = rd_a z := by rw [h147, if_pos rfl]
      have ec : g' 130 (g 146 (rd_k z).toNat).toNat = g 130 (g 146 (rd_k z).toNat).toNat + 1 := by rw [h130, if_pos rfl]
      refine ⟨⟨t0, t1, t2, t3⟩, fun _ => ⟨by omega, by omega, ?_⟩, r3, fun c => ?_, fun c => ?_, ?_⟩
      · rw [eA, ec]
        by_cases c0 : g 130 (g 146 (rd_k z).toNat).toNat = 0
        · obtain ⟨q1, -⟩ := rd_ch_0 (oa := g 147 (rd_k z).toNat) n5 c0 h128 (by rw [h129, if_pos ⟨c0, rfl⟩])
          rw [c0]
          exact q1.symm
        · have := ff.2.2.2.1
          obtain ⟨a1, a2, a3⟩ := l2 (by omega)
          obtain ⟨-, q2, -⟩ := rd_ch_1 (i2 _ t0 t1) rfl (by omega) h128 (by rw [h129, if_neg (fun c => c0 c.1)]) a3
          have et : (g 130 (g 146 (rd_k z).toNat).toNat + 1).toNat - 1 = (g 130 (g 146 (rd_k z).toNat).toNat).toNat := by omega
          rw [et]
          exact q2.symm
      · rw [h149, if_pos rfl] at c
        exact absurd c (by decide)
      · rw [h151, if_pos rfl] at c
        exact absurd rfl c
      · rw [h150, if_pos rfl]
        omega
    · have hne : g 146 i.toNat ≠ g 146 (rd_k z).toNat := fun e => by
        rw [e, f2] at t2
        omega
      obtain ⟨o1, o2⟩ := oth _ t0 t1 hne
      have ei : ¬ i.toNat = (rd_k z).toNat := by omega
      obtain ⟨-, -, -, r4, r5, r6⟩ := i4b i h0 (by omega)
      rw [h147, if_neg ei, h149, if_neg ei, h150, if_neg ei, h151, if_neg ei, o1]
      refine ⟨⟨t0, t1, t2, t3⟩, fun c => ?_, r3, r4, r5, r6⟩
      obtain ⟨a1, a2, a3⟩ := r2 c
      refine ⟨a1, by omega, ?_⟩
      rw [o2 _ (by omega)]
      exact a3
  · have := i5 i h0 h1
    unfold rd_grp at this ⊢
    simp only [e119, e120, e124, e125, e146, e148]
    exact this
end RDB
/-! reading: a unit is put -/
section RDP
variable {g g' : wk_g} {Y : wk_Y} {z : rd_Z} {m u : Int}
/-- a unit that stands nowhere yet -/
def rd_loose (g : wk_g) (Y : wk_Y) (z : rd_Z) (u : Int) : Prop := 0 ≤ u ∧ u < wk_u Y ∧ wk_c Y u = g 146 (rd_k z).toNat ∧ wk_e Y u ≤ wk_u Y ∧ g 124 u.toNat < 0 ∧ g 125 u.toNat < 0 ∧ (∀ w, 0 ≤ w → w < wk_u Y → g 124 w.toNat ≠ u) ∧ (0 ≤ g 149 (rd_k z).toNat → wk_e Y (g 149 (rd_k z).toNat) ≤ u ∧ (0 ≤ g 124 (g 149 (rd_k z).toNat).toNat → wk_e Y (g 124 (g 149 (rd_k z).toNat).toNat) ≤ u))
theorem rd_put (hI : rd_I g Y z m) (hk : 0 ≤ rd_k z) (hu : rd_loose g Y z u) (hc : 0 < g 130 (g 146 (rd_k z).toNat).toNat)
    (s : ∀ j, j ∈ [119, 120, 128, 129, 130, 146, 147, 148] → ∀ i, g' j i = g j i)
    (h124 : ∀ i : Nat, g' 124 i = if g 151 (rd_k z).toNat ≠ 0 ∧ i = (g 149 (rd_k z).toNat).toNat then u else g 124 i)
    (h125 : ∀ i : Nat, g' 125 i = if g 151 (rd_k z).toNat = 0 ∧ 0 ≤ g 149 (rd_k z).toNat ∧ i = (g 149 (rd_k z).toNat).toNat then u else g 125 i)
    (h126 : ∀ i : Nat, g' 126 i = if g 151 (rd_k z).toNat = 0 ∧ g 149 (rd_k z).toNat < 0 ∧ i = (g 147 (rd_k z).toNat).toNat then u else g 126 i)
    (h149 : ∀ i : Nat, g' 149 i = if g 151 (rd_k z).toNat = 0 ∧ i = (rd_k z).toNat then u else g 149 i)
    (h150 : ∀ i : Nat, g' 150 i = if i = (rd_k z).toNat then u else g 150 i)
    (h151 : ∀ i : Nat, g' 151 i = if i = (rd_k z).toNat then 0 else g 151 i) : rd_I g' Y z m := by
  obtain ⟨nn, i1, i2, i3, i4, i5⟩ := hI
  obtain ⟨u0, u1, u2, u3, u4, u5, u6, u7⟩ := hu
  have e119 := s 119 (by decide)
  have e120 := s 120 (by decide)
  have e128 := s 128 (by decide)
  have e129 := s 129 (by decide)
  have e130 := s 130 (by decide)
  have e146 := s 146 (by decide)
  have e147 := s 147 (by decide)
  have e148 := s 148 (by decide)
  obtain ⟨⟨f0, f1, f2, f3⟩, l2, l3, l4, l5, l6⟩ := i4 (rd_k z) hk (Int.le_refl _)
  obtain ⟨a1, a2, a3⟩ := l2 hc
  have ff := i2 _ f0 f1
  have how : rd_ow z (g 147 (rd_k z).toNat) = g 146 (rd_k z).toNat := by
    obtain ⟨-, -, b3, -⟩ := ff.2.2.2.2.2.2.2 ((g 130 (g 146 (rd_k z).toNat).toNat).toNat - 1) (by omega)
    rw [← a3] at b3
    exact b3
  have top : rd_top g Y z (rd_k z) = wk_u Y := if_neg (Int.lt_irrefl _)
  -- the last item
  have lu : 0 ≤ g 149 (rd_k z).toNat → g 149 (rd_k z).toNat < u := fun c => by
    obtain ⟨x1, -⟩ := l4 c
    have := (i1 _ c x1).1.1
    have := (u7 c).1
    omega
  have alts : ∀ n a, wk_alt g' n a = wk_alt g n a := by
    intro n
    induction n with
    | zero => intro a; rfl
    | succ n ih =>
      intro a
      show wk_alt g' n (g' 128 a.toNat) = wk_alt g n (g 128 a.toNat)
      rw [e128, ih]
  have dis : ∀ i, 0 ≤ i → i ≤ rd_k z → i ≠ rd_k z → g 146 i.toNat ≠ g 146 (rd_k z).toNat := fun i h0 h1 hne e => by
    obtain ⟨⟨-, -, t2, -⟩, -⟩ := i4 i h0 h1
    rw [e, f2] at t2
    omega
  -- what is not of this form is not touched
  have k124 : ∀ w, 0 ≤ w → (0 ≤ g 149 (rd_k z).toNat → w ≠ g 149 (rd_k z).toNat) → g' 124 w.toNat = g 124 w.toNat := fun w h0 hw => by
    rw [h124]
    by_cases c : g 151 (rd_k z).toNat ≠ 0 ∧ w.toNat = (g 149 (rd_k z).toNat).toNat
    · exfalso
      have p := (l5 c.1).1
      exact hw p (by have := c.2; omega)
    · rw [if_neg c]
  have k125 : ∀ w, 0 ≤ w → (0 ≤ g 149 (rd_k z).toNat → w ≠ g 149 (rd_k z).toNat) → g' 125 w.toNat = g 125 w.toNat := fun w h0 hw => by
    rw [h125]
    by_cases c : g 151 (rd_k z).toNat = 0 ∧ 0 ≤ g 149 (rd_k z).toNat ∧ w.toNat = (g 149 (rd_k z).toNat).toNat
    · exfalso
      exact hw c.2.1 (by have := c.2; omega)
    · rw [if_neg c]
  have v124 : ∀ w : Int, g' 124 w.toNat = u ∨ g' 124 w.toNat = g 124 w.toNat := fun w => by
    rw [h124]
    split
    · exact Or.inl rfl
    · exact Or.inr rfl
  refine ⟨nn, fun w h0 h1 => ?_, fun f h0 h1 => ?_, fun a h0 h1 => ?_, fun i h0 h1 => ?_, fun i h0 h1 => ?_⟩
  · obtain ⟨p1, p2, p3, p4, p5, p6⟩ := i1 w h0 h1
    unfold rd_unit
    simp only [e119, e120]
    by_cases hw : 0 ≤ g 149 (rd_k z).toNat ∧ w = g 149 (rd_k z).toNat
    · obtain ⟨hl0, rfl⟩ := hw
      obtain ⟨x1, x2, x3, x4, x5, x6⟩ := l4 hl0
      have ltu := lu hl0
      have ku4 : g' 124 u.toNat = g 124 u.toNat := k124 u u0 (fun _ => by omega)
      refine ⟨p1, fun c => ?_, fun c => ?_, p4, p5, p6⟩
      · by_cases cs : g 151 (rd_k z).toNat ≠ 0
        · have e : g' 124 (g 149 (rd_k z).toNat).toNat = u := by rw [h124, if_pos ⟨cs, rfl⟩]
          rw [e, ku4]
          exact ⟨u1, u2.trans x2.symm, (u7 hl0).1, u4⟩
        · have e : g' 124 (g 149 (rd_k z).toNat).toNat = g 124 (g 149 (rd_k z).toNat).toNat := by rw [h124, if_neg (fun z => cs z.1)]
          rw [e] at c ⊢
          obtain ⟨y1, y2, y3, y4⟩ := p2 c
          refine ⟨y1, y2, y3, ?_⟩
          rw [h124, if_neg (fun z => cs z.1)]
          exact y4
      · by_cases cs : g 151 (rd_k z).toNat = 0
        · have e : g' 125 (g 149 (rd_k z).toNat).toNat = u := by rw [h125, if_pos ⟨cs, hl0, rfl⟩]
          have e4 : g' 124 (g 149 (rd_k z).toNat).toNat = g 124 (g 149 (rd_k z).toNat).toNat := by rw [h124, if_neg (fun z => z.1 cs)]
          rw [e, e4]
          exact ⟨u1, u2.trans x2.symm, (u7 hl0).1, (u7 hl0).2⟩
        · exfalso
          rw [h125, if_neg (fun z => cs z.1)] at c
          omega
    · have hw' : 0 ≤ g 149 (rd_k z).toNat → w ≠ g 149 (rd_k z).toNat := fun a b => hw ⟨a, b⟩
      rw [k124 w h0 hw', k125 w h0 hw']
      refine ⟨p1, fun c => ?_, p3, p4, p5, p6⟩
      obtain ⟨y1, y2, y3, y4⟩ := p2 c
      refine ⟨y1, y2, y3, ?_⟩
      rw [k124 _ c (fun hl0 => (l4 hl0).2.2.2.2.2 w h0 h1)]
      exact y4
  · have hf := i2 f h0 h1
    unfold rd_form at hf ⊢
    simp only [e129, e130, e146, alts]
    exact hf
  · unfold rd_alt
    rw [h126]
    by_cases c : g 151 (rd_k z).toNat = 0 ∧ g 149 (rd_k z).toNat < 0 ∧ a.toNat = (g 147 (rd_k z).toNat).toNat
    · rw [if_pos c]
      have ea : a = g 147 (rd_k z).toNat := by have := c.2.2; omega
      rw [ea, how]
      exact Or.inr ⟨u1, u2⟩
    · rw [if_neg c]
      exact i3 a h0 h1
  · obtain ⟨⟨t0, t1, t2, t3⟩, r2, r3, r4, r5, r6⟩ := i4 i h0 h1
    have etop : rd_top g' Y z i = rd_top g Y z i := by
      unfold rd_top
      rw [e148]
    unfold rd_lev
    simp only [e129, e130, e146, e147, e148, etop, alts]
    by_cases hik : i = rd_k z
    · subst hik
      refine ⟨⟨t0, t1, t2, t3⟩, r2, r3, fun c => ?_, fun c => ?_, ?_⟩
      · by_cases cs : g 151 (rd_k z).toNat = 0
        · have e : g' 149 (rd_k z).toNat = u := by rw [h149, if_pos ⟨cs, rfl⟩]
          have ku4 : g' 124 u.toNat = g 124 u.toNat := by rw [h124, if_neg (fun z => z.1 cs)]
          rw [e, top, k125 u u0 (fun p => by have := lu p; omega), ku4]
          refine ⟨u1, u2, u3, u5, fun z => by omega, fun w x0 x1 => ?_⟩
          rw [h124, if_neg (fun z => z.1 cs)]
          exact u6 w x0 x1
        · have e : g' 149 (rd_k z).toNat = g 149 (rd_k z).toNat := by rw [h149, if_neg (fun z => cs z.1)]
          rw [e] at c ⊢
          obtain ⟨x1, x2, x3, x4, x5, x6⟩ := l4 c
          have em : g' 124 (g 149 (rd_k z).toNat).toNat = u := by rw [h124, if_pos ⟨cs, rfl⟩]
          have en : g' 125 (g 149 (rd_k z).toNat).toNat = g 125 (g 149 (rd_k z).toNat).toNat := by rw [h125, if_neg (fun z => cs z.1)]
          rw [em, en, top]
          rw [top] at x3
          refine ⟨x1, x2, x3, x4, fun _ => u3, fun w y0 y1 => ?_⟩
          rcases v124 w with e2 | e2
          · rw [e2]
            have := lu c
            omega
          · rw [e2]
            exact x6 w y0 y1
      · rw [h151, if_pos rfl] at c
        exact absurd rfl c
      · rw [h150, if_pos rfl]
        exact u1
    · have ei : ¬ i.toNat = (rd_k z).toNat := by omega
      have hne := dis i h0 h1 hik
      have e149 : g' 149 i.toNat = g 149 i.toNat := by rw [h149, if_neg (fun z => ei z.2)]
      rw [e149, h150, if_neg ei, h151, if_neg ei]
      have off : 0 ≤ g 149 i.toNat → 0 ≤ g 149 (rd_k z).toNat → g 149 i.toNat ≠ g 149 (rd_k z).toNat := fun a b e => by
        have x := (r4 a).2.1
        rw [e, (l4 b).2.1] at x
        exact hne x.symm
      refine ⟨⟨t0, t1, t2, t3⟩, r2, r3, fun c => ?_, fun c => ?_, r6⟩
      · obtain ⟨x1, x2, x3, x4, x5, x6⟩ := r4 c
        rw [k124 _ c (off c), k125 _ c (off c)]
        refine ⟨x1, x2, x3, x4, x5, fun w y0 y1 => ?_⟩
        rcases v124 w with e2 | e2
        · rw [e2]
          intro e
          rw [← e, u2] at x2
          exact hne x2.symm
        · rw [e2]
          exact x6 w y0 y1
      · obtain ⟨x1, x2⟩ := r5 c
        rw [k124 _ x1 (off x1)]
        exact ⟨x1, x2⟩
  · obtain ⟨x1, x2, x3, x4, x5, x6, x7, x8, x9, x10⟩ := i5 i h0 h1
    have hne := dis (i - 1) (by omega) (by omega) (by omega)
    have off : 0 ≤ g 149 (rd_k z).toNat → g 148 i.toNat ≠ g 149 (rd_k z).toNat := fun b e => by
      rw [e, (l4 b).2.1] at x3
      exact hne x3.symm
    unfold rd_grp
    simp only [e119, e120, e146, e148]
    rw [k124 _ x1 off, k125 _ x1 off]
    refine ⟨x1, x2, x3, x4, x5, x6, x7, x8, x9, fun w y0 y1 => ?_⟩
    rcases v124 w with e2 | e2
    · rw [e2]
      intro e
      rw [← e, u2] at x3
      exact hne x3.symm
    · rw [e2]
      exact x10 w y0 y1
end RDP
/-! reading: a plain unit comes -/
section RDN
variable {g g' : wk_g} {Y : wk_Y} {z : rd_Z} {m : Int}
def rd_yp (g : wk_g) (Y : wk_Y) (z : rd_Z) : wk_Y := (fun w => if w = wk_u Y then wk_u Y + 1 else wk_e Y w, fun w => if w = wk_u Y then g 146 (rd_k z).toNat else wk_c Y w, fun f => wk_b Y f, fun f => wk_x Y f, fun f => wk_d Y f, wk_u Y + 1, wk_f Y)
theorem rd_plain (hI : rd_I g Y z m) (hk : 0 ≤ rd_k z) (hU : wk_u Y < 60)
    (s : ∀ j, j ∈ [126, 128, 129, 130, 146, 147, 148, 149, 150, 151] → ∀ i, g' j i = g j i)
    (s119 : ∀ i : Nat, i ≠ (wk_u Y).toNat → g' 119 i = g 119 i) (s120 : ∀ i : Nat, i ≠ (wk_u Y).toNat → g' 120 i = g 120 i)
    (h124 : ∀ i : Nat, g' 124 i = if i = (wk_u Y).toNat then -1 else g 124 i) (h125 : ∀ i : Nat, g' 125 i = if i = (wk_u Y).toNat then -1 else g 125 i)
    (n10 : g' 119 (wk_u Y).toNat ≠ 10) (n9 : g' 119 (wk_u Y).toNat = 9 → 0 ≤ g' 120 (wk_u Y).toNat ∧ g' 120 (wk_u Y).toNat < 26) (n8 : g' 119 (wk_u Y).toNat = 8 → 0 ≤ g' 120 (wk_u Y).toNat ∧ g' 120 (wk_u Y).toNat < 20)
    (hb : wk_b Y (g 146 (rd_k z).toNat) < wk_u Y) : rd_I g' (rd_yp g Y z) z m ∧ rd_loose g' (rd_yp g Y z) z (wk_u Y) := by
  obtain ⟨⟨n1, n2, n3, n4, n5, n6, n7⟩, i1, i2, i3, i4, i5⟩ := hI
  have e126 := s 126 (by decide)
  have e128 := s 128 (by decide)
  have e129 := s 129 (by decide)
  have e130 := s 130 (by decide)
  have e146 := s 146 (by decide)
  have e147 := s 147 (by decide)
  have e148 := s 148 (by decide)
  have e149 := s 149 (by decide)
  have e150 := s 150 (by decide)
  have e151 := s 151 (by decide)
  obtain ⟨⟨f0, f1, f2, f3⟩, l2, l3, l4, l5, l6⟩ := i4 (rd_k z) hk (Int.le_refl _)
  have yu : wk_u (rd_yp g Y z) = wk_u Y + 1 := rfl
  have yf : wk_f (rd_yp g Y z) = wk_f Y := rfl
  have yb : ∀ f, wk_b (rd_yp g Y z) f = wk_b Y f := fun _ => rfl
  have yx : ∀ f, wk_x (rd_yp g Y z) f = wk_x Y f := fun _ => rfl
  have yd : ∀ f, wk_d (rd_yp g Y z) f = wk_d Y f := fun _ => rfl
  have ye : ∀ w, w < wk_u Y → wk_e (rd_yp g Y z) w = wk_e Y w := fun w h => if_neg (show ¬ w = wk_u Y by omega)
  have yc : ∀ w, w < wk_u Y → wk_c (rd_yp g Y z) w = wk_c Y w := fun w h => if_neg (show ¬ w = wk_u Y by omega)
  have yeU : wk_e (rd_yp g Y z) (wk_u Y) = wk_u Y + 1 := if_pos rfl
  have ycU : wk_c (rd_yp g Y z) (wk_u Y) = g 146 (rd_k z).toNat := if_pos rfl
  have k124 : ∀ w, 0 ≤ w → w < wk_u Y → g' 124 w.toNat = g 124 w.toNat := fun w a b => by rw [h124, if_neg (by omega)]
  have k125 : ∀ w, 0 ≤ w → w < wk_u Y → g' 125 w.toNat = g 125 w.toNat := fun w a b => by rw [h125, if_neg (by omega)]
  have U124 : g' 124 (wk_u Y).toNat = -1 := by rw [h124, if_pos rfl]
  have U125 : g' 125 (wk_u Y).toNat = -1 := by rw [h125, if_pos rfl]
  have alts : ∀ n a, wk_alt g' n a = wk_alt g n a := by
    intro n
    induction n with
    | zero => intro a; rfl
    | succ n ih =>
      intro a
      show wk_alt g' n (g' 128 a.toNat) = wk_alt g n (g 128 a.toNat)
      rw [e128, ih]
  have tops : ∀ i, i ≤ rd_k z → rd_top g Y z i ≤ rd_top g' (rd_yp g Y z) z i ∧ (i < rd_k z → rd_top g' (rd_yp g Y z) z i = rd_top g Y z i) := fun i h => by
    unfold rd_top
    rw [e148, yu]
    by_cases c : i < rd_k z
    · rw [if_pos c, if_pos c]
      exact ⟨Int.le_refl _, fun _ => rfl⟩
    · rw [if_neg c, if_neg c]
      exact ⟨by omega, fun x => absurd x c⟩
  have m124 : ∀ (v : Int), 0 ≤ v → (∀ w, 0 ≤ w → w < wk_u Y → g 124 w.toNat ≠ v) → ∀ w, 0 ≤ w → w < wk_u Y + 1 → g' 124 w.toNat ≠ v := fun v v0 hv w w0 w1 => by
    by_cases c : w = wk_u Y
    · rw [c, U124]
      omega
    · rw [k124 w w0 (by omega)]
      exact hv w w0 (by omega)
  refine ⟨⟨⟨by rw [yu]; omega, by rw [yu]; omega, n3, n4, n5, n6, n7⟩, fun w h0 h1 => ?_, fun f h0 h1 => ?_, fun a h0 h1 => ?_, fun i h0 h1 => ?_, fun i h0 h1 => ?_⟩, ?_⟩
  · rw [yu] at h1
    unfold rd_unit
    by_cases c : w = wk_u Y
    · subst c
      rw [U124, U125, yeU, ycU, yx, yb, f3, yf]
      exact ⟨⟨by omega, by omega, hb, f0, f1⟩, fun x => absurd x (by decide), fun x => absurd x (by decide), n9, fun x => absurd x n10, n8⟩
    · have hw : w < wk_u Y := by omega
      obtain ⟨p1, p2, p3, p4, p5, p6⟩ := i1 w h0 hw
      rw [k124 w h0 hw, k125 w h0 hw, s119 w.toNat (by omega), s120 w.toNat (by omega), ye w hw, yc w hw, yx, yb, yf]
      refine ⟨p1, fun x => ?_, fun x => ?_, p4, fun x => ?_, p6⟩
      · obtain ⟨y1, y2, y3, y4⟩ := p2 x
        rw [yu, yc _ y1, k124 _ x y1]
        exact ⟨by omega, y2, y3, y4⟩
      · obtain ⟨y1, y2, y3, y4⟩ := p3 x
        rw [yu, yc _ y1]
        refine ⟨by omega, y2, y3, fun q => ?_⟩
        rw [ye _ (p2 q).1]
        exact y4 q
      · rw [yx, yb, yd, yd]
        exact p5 x
  · have hf := i2 f h0 h1
    unfold rd_form at hf ⊢
    simp only [e129, e130, e146, alts, yd, yb, yx]
    exact hf
  · unfold rd_alt
    rw [e126, yu]
    by_cases c : g 126 a.toNat < 0
    · exact Or.inl c
    · rcases i3 a h0 h1 with x | x
      · exact absurd x c
      · rw [yc _ x.1]
        exact Or.inr ⟨by omega, x.2⟩
  · obtain ⟨⟨t0, t1, t2, t3⟩, r2, r3, r4, r5, r6⟩ := i4 i h0 h1
    obtain ⟨tp1, tp2⟩ := tops i h1
    unfold rd_lev
    simp only [e129, e130, e146, e147, e148, e149, e150, e151, alts, yd, yx, yf]
    refine ⟨⟨t0, t1, t2, t3⟩, r2, fun w w0 w1 wc => ?_, fun c => ?_, fun c => ?_, by rw [yu]; omega⟩
    · rw [yu] at w1
      by_cases c : w = wk_u Y
      · subst c
        rw [ycU] at wc
        have ei : i = rd_k z := by
          rw [← wc, f2] at t2
          exact t2.symm
        subst ei
        refine Or.inl ?_
        rw [yeU]
        unfold rd_top
        rw [if_neg (Int.lt_irrefl _), yu]
        exact Int.le_refl _
      · have hw : w < wk_u Y := by omega
        rw [yc w hw] at wc
        rw [ye w hw]
        rcases r3 w w0 hw wc with x | x
        · exact Or.inl (by omega)
        · exact Or.inr x
    · obtain ⟨x1, x2, x3, x4, x5, x6⟩ := r4 c
      rw [k124 _ c x1, k125 _ c x1, yu, yc _ x1, ye _ x1]
      refine ⟨by omega, x2, by omega, x4, fun q => ?_, m124 _ c x6⟩
      obtain ⟨y1, -⟩ := (i1 _ c x1).2.1 q
      rw [ye _ y1]
      have := x5 q
      omega
    · obtain ⟨x1, x2⟩ := r5 c
      rw [k124 _ x1 (r4 x1).1]
      exact ⟨x1, x2⟩
  · obtain ⟨x1, x2, x3, x4, x5, x6, x7, x8, x9, x10⟩ := i5 i h0 h1
    unfold rd_grp
    simp only [e146, e148, yb]
    rw [k124 _ x1 x2, k125 _ x1 x2, s119 _ (by omega), s120 _ (by omega), yc _ x2, ye _ x2, yu]
    exact ⟨x1, by omega, x3, x4, x5, x6, x7, x8, x9, m124 _ x1 x10⟩
  · unfold rd_loose
    rw [yu, ycU, yeU, e146, e149, U124, U125]
    refine ⟨n1, by omega, rfl, Int.le_refl _, by decide, by decide, fun w w0 w1 => ?_, fun c => ?_⟩
    · by_cases cw : w = wk_u Y
      · rw [cw, U124]
        omega
      · rw [k124 w w0 (by omega)]
        intro e
        have := ((i1 w w0 (by omega)).2.1 (by omega)).1
        omega
    · obtain ⟨x1, x2, x3, x4, x5, x6⟩ := l4 c
      have top : rd_top g Y z (rd_k z) = wk_u Y := if_neg (Int.lt_irrefl _)
      rw [top] at x3 x5
      rw [ye _ x1, k124 _ c x1]
      refine ⟨x3, fun q => ?_⟩
      rw [ye _ ((i1 _ c x1).2.1 q).1]
      exact x5 q
end RDN
/-! reading: a group is closed -/
section RDK
variable {g : wk_g} {Y : wk_Y} {z : rd_Z}
def rd_yk (g : wk_g) (Y : wk_Y) (z : rd_Z) : wk_Y := (fun w => if w = g 148 (rd_k z).toNat then wk_u Y else wk_e Y w, fun w => wk_c Y w, fun f => wk_b Y f, fun f => if f = g 146 (rd_k z).toNat then wk_u Y else wk_x Y f, fun f => wk_d Y f, wk_u Y, wk_f Y)
def rd_zk (z : rd_Z) : rd_Z := (fun a => rd_ow z a, fun a => rd_ix z a, rd_a z, rd_k z - 1)
theorem rd_close (hI : rd_I g Y z 1) (hk : 1 ≤ rd_k z) : rd_I g (rd_yk g Y z) (rd_zk z) 1 ∧ rd_loose g (rd_yk g Y z) (rd_zk z) (g 148 (rd_k z).toNat) := by
  obtain ⟨⟨n1, n2, n3, n4, n5, n6, n7⟩, i1, i2, i3, i4, i5⟩ := hI
  obtain ⟨⟨f0, f1, f2, f3⟩, l2, l3, l4, l5, l6⟩ := i4 (rd_k z) (by omega) (Int.le_refl _)
  obtain ⟨⟨c0, c1, c2, c3⟩, m2, m3, m4, m5, m6⟩ := i4 (rd_k z - 1) (by omega) (by omega)
  obtain ⟨x1, x2, x3, x4, x5, x6, x7, x8, x9, x10⟩ := i5 (rd_k z) hk (Int.le_refl _)
  have top : rd_top g Y z (rd_k z) = wk_u Y := if_neg (Int.lt_irrefl _)
  have top1 : rd_top g Y z (rd_k z - 1) = g 148 (rd_k z).toNat := by
    unfold rd_top
    rw [if_pos (by omega), show rd_k z - 1 + 1 = rd_k z from by omega]
  have yu : wk_u (rd_yk g Y z) = wk_u Y := rfl
  have yf : wk_f (rd_yk g Y z) = wk_f Y := rfl
  have yb : ∀ f, wk_b (rd_yk g Y z) f = wk_b Y f := fun _ => rfl
  have yd : ∀ f, wk_d (rd_yk g Y z) f = wk_d Y f := fun _ => rfl
  have yc : ∀ w, wk_c (rd_yk g Y z) w = wk_c Y w := fun _ => rfl
  have ye : ∀ w, w ≠ g 148 (rd_k z).toNat → wk_e (rd_yk g Y z) w = wk_e Y w := fun w h => if_neg h
  have yeU : wk_e (rd_yk g Y z) (g 148 (rd_k z).toNat) = wk_u Y := if_pos rfl
  have yx : ∀ f, f ≠ g 146 (rd_k z).toNat → wk_x (rd_yk g Y z) f = wk_x Y f := fun f h => if_neg h
  have yxU : wk_x (rd_yk g Y z) (g 146 (rd_k z).toNat) = wk_u Y := if_pos rfl
  have zk : rd_k (rd_zk z) = rd_k z - 1 := rfl
  have za : rd_a (rd_zk z) = rd_a z := rfl
  have zo : ∀ a, rd_ow (rd_zk z) a = rd_ow z a := fun _ => rfl
  have zi : ∀ a, rd_ix (rd_zk z) a = rd_ix z a := fun _ => rfl
  have dis : ∀ i j, 0 ≤ i → i ≤ rd_k z → 0 ≤ j → j ≤ rd_k z → i ≠ j → g 146 i.toNat ≠ g 146 j.toNat := fun i j h0 h1 h2 h3 hne e => by
    obtain ⟨⟨-, -, t2, -⟩, -⟩ := i4 i h0 h1
    obtain ⟨⟨-, -, s2, -⟩, -⟩ := i4 j h2 h3
    rw [e, s2] at t2
    omega
  have hfk : g 146 (rd_k z - 1).toNat ≠ g 146 (rd_k z).toNat := dis _ _ (by omega) (by omega) (by omega) (by omega) (by omega)
  have xle : ∀ f, 0 ≤ f → f < wk_f Y → wk_x (rd_yk g Y z) f ≤ 60 ∧ (f ≠ g 146 (rd_k z).toNat ∨ wk_x Y f = 60) := fun f h0 h1 => by
    by_cases c : f = g 146 (rd_k z).toNat
    · subst c
      rw [yxU]
      exact ⟨n2, Or.inr f3⟩
    · rw [yx f c]
      exact ⟨(i2 f h0 h1).2.2.2.2.2.2.1, Or.inl c⟩
  refine ⟨⟨⟨n1, n2, n3, n4, n5, n6, by rw [zk]; omega⟩, fun w h0 h1 => ?_, fun f h0 h1 => ?_, fun a h0 h1 => i3 a h0 h1, fun i h0 h1 => ?_, fun i h0 h1 => ?_⟩, ?_⟩
  · rw [yu] at h1
    obtain ⟨⟨p1, p1b, p1c, p1d, p1e⟩, p2, p3, p4, p5, p6⟩ := i1 w h0 h1
    unfold rd_unit
    simp only [yc, yu, yf, yb, yd]
    have x5' : g 119 w.toNat = 10 → wk_x (rd_yk g Y z) (g 120 w.toNat) ≤ wk_x Y (g 120 w.toNat) := fun c => by
      obtain ⟨q1, q2, -⟩ := p5 c
      by_cases e : g 120 w.toNat = g 146 (rd_k z).toNat
      · rw [e, yxU, f3]
        exact n2
      · rw [yx _ e]
        exact Int.le_refl _
    by_cases c : w = g 148 (rd_k z).toNat
    · subst c
      rw [yeU, x3, yx _ hfk, c3]
      rw [x3] at p1c p1d p1e
      refine ⟨⟨x2, n2, p1c, p1d, p1e⟩, fun q => by omega, fun q => by omega, p4, fun q => ?_, p6⟩
      obtain ⟨q1, q2, q3, q4⟩ := p5 q
      rw [x3] at q4
      refine ⟨q1, q2, ?_, q4⟩
      rw [x5, yxU, x7]
      exact Int.le_refl _
    · rw [ye w c]
      refine ⟨⟨p1, ?_, p1c, p1d, p1e⟩, p2, fun q => ?_, p4, fun q => ?_, p6⟩
      · by_cases e : wk_c Y w = g 146 (rd_k z).toNat
        · rw [e, yxU]
          rcases l3 w h0 h1 e with y | y
          · rw [top] at y
            exact y
          · exfalso; omega
        · rw [yx _ e]
          exact p1b
      · obtain ⟨q1, q2, q3, q4⟩ := p3 q
        refine ⟨q1, q2, q3, fun r => ?_⟩
        rw [ye _ (x10 w h0 h1)]
        exact q4 r
      · obtain ⟨q1, q2, q3, q4⟩ := p5 q
        have := x5' q
        exact ⟨q1, q2, by omega, q4⟩
  · have hf := i2 f h0 h1
    rw [show (if 0 ≤ rd_k z ∧ f = g 146 (rd_k z).toNat then (1 : Int) else 1) = 1 from by split <;> rfl] at hf
    rw [show (if 0 ≤ rd_k (rd_zk z) ∧ f = g 146 (rd_k (rd_zk z)).toNat then (1 : Int) else 1) = 1 from by split <;> rfl]
    obtain ⟨p1, p2, p3, p4, p5, p6, p7, p8⟩ := hf
    refine ⟨p1, p2, p3, p4, p5, ?_, (xle f h0 h1).1, p8⟩
    by_cases c : f = g 146 (rd_k z).toNat
    · subst c
      rw [yxU, yb, x7]
      exact x2
    · rw [yx f c, yb]
      exact p6
  · rw [zk] at h1
    obtain ⟨⟨t0, t1, t2, t3⟩, r2, r3, r4, r5, r6⟩ := i4 i h0 (by omega)
    have hne : g 146 i.toNat ≠ g 146 (rd_k z).toNat := dis _ _ h0 (by omega) (by omega) (by omega) (by omega)
    have tops : rd_top g Y z i ≤ rd_top g (rd_yk g Y z) (rd_zk z) i ∧ (i < rd_k z - 1 → rd_top g (rd_yk g Y z) (rd_zk z) i = rd_top g Y z i) ∧ (i = rd_k z - 1 → rd_top g (rd_yk g Y z) (rd_zk z) i = wk_u Y) := by
      by_cases c : i < rd_k z - 1
      · have e : rd_top g (rd_yk g Y z) (rd_zk z) i = rd_top g Y z i := by
          unfold rd_top
          rw [zk, if_pos c, if_pos (by omega)]
        exact ⟨by omega, fun _ => e, fun q => by omega⟩
      · have ei : i = rd_k z - 1 := by omega
        have e : rd_top g (rd_yk g Y z) (rd_zk z) i = wk_u Y := by
          unfold rd_top
          rw [zk, if_neg c]
          rfl
        refine ⟨?_, fun q => absurd q c, fun _ => e⟩
        rw [e, ei, top1]
        omega
    have nu : ∀ l, 0 ≤ l → l < wk_u Y → wk_c Y l = g 146 i.toNat → wk_e Y l ≤ rd_top g Y z i → l ≠ g 148 (rd_k z).toNat := fun l l0 l1 lc le e => by
      have := (i1 l l0 l1).1.1
      rw [e, x3] at lc
      by_cases c : i = rd_k z - 1
      · subst c
        rw [top1] at le
        omega
      · exact dis _ _ (by omega) (by omega) h0 (by omega) (fun q => c q.symm) lc
    unfold rd_lev
    simp only [yc, yu, yf, yd, za]
    refine ⟨⟨t0, t1, t2, by rw [yx _ hne]; exact t3⟩, r2, fun w w0 w1 wc => ?_, fun c => ?_, r5, r6⟩
    · by_cases e : w = g 148 (rd_k z).toNat
      · subst e
        rw [x3] at wc
        have ei : i = rd_k z - 1 := by
          rw [← wc, c2] at t2
          exact t2.symm
        rw [yeU, tops.2.2 ei]
        exact Or.inl (Int.le_refl _)
      · rw [ye w e]
        rcases r3 w w0 w1 wc with y | y
        · exact Or.inl (by omega)
        · by_cases c : i < rd_k z - 1
          · exact Or.inr ⟨by rw [zk]; exact c, y.2⟩
          · exfalso
            have ei : i + 1 = rd_k z := by omega
            rw [ei] at y
            exact e y.2
    · obtain ⟨y1, y2, y3, y4, y5, y6⟩ := r4 c
      rw [ye _ (nu _ c y1 y2 y3)]
      refine ⟨y1, y2, by omega, y4, fun q => ?_, y6⟩
      rw [ye _ (x10 _ c y1)]
      have := y5 q
      omega
  · rw [zk] at h1
    obtain ⟨y1, y2, y3, y4, y5, y6, y7, y8, y9, y10⟩ := i5 i h0 (by omega)
    have hne : g 148 i.toNat ≠ g 148 (rd_k z).toNat := fun e => by
      rw [e, x3] at y3
      exact dis _ _ (by omega) (by omega) (by omega) (by omega) (by omega) y3
    exact ⟨y1, y2, y3, y4, y5, by rw [ye _ hne]; exact y6, y7, y8, y9, y10⟩
  · unfold rd_loose
    rw [yu, yeU, zk]
    refine ⟨x1, x2, x3, Int.le_refl _, x8, x9, x10, fun c => ?_⟩
    obtain ⟨y1, y2, y3, y4, y5, y6⟩ := m4 c
    rw [top1] at y3 y5
    have hlt := (i1 _ c y1).1.1
    rw [ye _ (by omega)]
    refine ⟨y3, fun q => ?_⟩
    rw [ye _ (x10 _ c y1)]
    exact y5 q
end RDK
/-! reading: a group is opened -/
section RDG
variable {g g' : wk_g} {Y : wk_Y} {z : rd_Z}
def rd_yg (g : wk_g) (Y : wk_Y) (z : rd_Z) : wk_Y := (fun w => if w = wk_u Y then 60 else wk_e Y w, fun w => if w = wk_u Y then g 146 (rd_k z).toNat else wk_c Y w, fun f => if f = wk_f Y then wk_u Y else wk_b Y f, fun f => if f = wk_f Y then 60 else wk_x Y f, fun f => if f = wk_f Y then rd_k z + 1 else wk_d Y f, wk_u Y + 1, wk_f Y + 1)
def rd_zg (z : rd_Z) : rd_Z := (fun a => rd_ow z a, fun a => rd_ix z a, rd_a z, rd_k z + 1)
theorem rd_group (hI : rd_I g Y z 1) (hk : 0 ≤ rd_k z) (hk4 : rd_k z < 4) (hU : wk_u Y < 60) (hF : wk_f Y < 80)
    (s : ∀ j, j ∈ [126, 128, 147, 149, 150, 151] → ∀ i, g' j i = g j i)
    (h119 : ∀ i : Nat, g' 119 i = if i = (wk_u Y).toNat then 10 else g 119 i) (h120 : ∀ i : Nat, g' 120 i = if i = (wk_u Y).toNat then wk_f Y else g 120 i)
    (h124 : ∀ i : Nat, g' 124 i = if i = (wk_u Y).toNat then -1 else g 124 i) (h125 : ∀ i : Nat, g' 125 i = if i = (wk_u Y).toNat then -1 else g 125 i)
    (h129 : ∀ i : Nat, g' 129 i = if i = (wk_f Y).toNat then -1 else g 129 i) (h130 : ∀ i : Nat, g' 130 i = if i = (wk_f Y).toNat then 0 else g 130 i)
    (h146 : ∀ i : Nat, g' 146 i = if i = (rd_k z + 1).toNat then wk_f Y else g 146 i) (h148 : ∀ i : Nat, g' 148 i = if i = (rd_k z + 1).toNat then wk_u Y else g 148 i)
    (hb : wk_b Y (g 146 (rd_k z).toNat) < wk_u Y) : rd_J g' (rd_yg g Y z) (rd_zg z) 0 := by
  obtain ⟨⟨n1, n2, n3, n4, n5, n6, n7⟩, i1, i2, i3, i4, i5⟩ := hI
  have e126 := s 126 (by decide)
  have e128 := s 128 (by decide)
  have e147 := s 147 (by decide)
  have e149 := s 149 (by decide)
  have e150 := s 150 (by decide)
  have e151 := s 151 (by decide)
  obtain ⟨⟨f0, f1, f2, f3⟩, l2, l3, l4, l5, l6⟩ := i4 (rd_k z) hk (Int.le_refl _)
  have yu : wk_u (rd_yg g Y z) = wk_u Y + 1 := rfl
  have yf : wk_f (rd_yg g Y z) = wk_f Y + 1 := rfl
  have yb : ∀ f, f < wk_f Y → wk_b (rd_yg g Y z) f = wk_b Y f := fun f h => if_neg (show ¬ f = wk_f Y by omega)
  have yx : ∀ f, f < wk_f Y → wk_x (rd_yg g Y z) f = wk_x Y f := fun f h => if_neg (show ¬ f = wk_f Y by omega)
  have yd : ∀ f, f < wk_f Y → wk_d (rd_yg g Y z) f = wk_d Y f := fun f h => if_neg (show ¬ f = wk_f Y by omega)
  have ybF : wk_b (rd_yg g Y z) (wk_f Y) = wk_u Y := if_pos rfl
  have yxF : wk_x (rd_yg g Y z) (wk_f Y) = 60 := if_pos rfl
  have ydF : wk_d (rd_yg g Y z) (wk_f Y) = rd_k z + 1 := if_pos rfl
  have ye : ∀ w, w < wk_u Y → wk_e (rd_yg g Y z) w = wk_e Y w := fun w h => if_neg (show ¬ w = wk_u Y by omega)
  have yc : ∀ w, w < wk_u Y → wk_c (rd_yg g Y z) w = wk_c Y w := fun w h => if_neg (show ¬ w = wk_u Y by omega)
  have yeU : wk_e (rd_yg g Y z) (wk_u Y) = 60 := if_pos rfl
  have ycU : wk_c (rd_yg g Y z) (wk_u Y) = g 146 (rd_k z).toNat := if_pos rfl
  have zk : rd_k (rd_zg z) = rd_k z + 1 := rfl
  have za : rd_a (rd_zg z) = rd_a z := rfl
  have k119 : ∀ w, 0 ≤ w → w < wk_u Y → g' 119 w.toNat = g 119 w.toNat := fun w a b => by rw [h119, if_neg (by omega)]
  have k120 : ∀ w, 0 ≤ w → w < wk_u Y → g' 120 w.toNat = g 120 w.toNat := fun w a b => by rw [h120, if_neg (by omega)]
  have k124 : ∀ w, 0 ≤ w → w < wk_u Y → g' 124 w.toNat = g 124 w.toNat := fun w a b => by rw [h124, if_neg (by omega)]
  have k125 : ∀ w, 0 ≤ w → w < wk_u Y → g' 125 w.toNat = g 125 w.toNat := fun w a b => by rw [h125, if_neg (by omega)]
  have k129 : ∀ f, 0 ≤ f → f < wk_f Y → g' 129 f.toNat = g 129 f.toNat := fun w a b => by rw [h129, if_neg (by omega)]
  have k130 : ∀ f, 0 ≤ f → f < wk_f Y → g' 130 f.toNat = g 130 f.toNat := fun w a b => by rw [h130, if_neg (by omega)]
  have k146 : ∀ i, 0 ≤ i → i ≤ rd_k z → g' 146 i.toNat = g 146 i.toNat := fun w a b => by rw [h146, if_neg (by omega)]
  have k148 : ∀ i, 0 ≤ i → i ≤ rd_k z → g' 148 i.toNat = g 148 i.toNat := fun w a b => by rw [h148, if_neg (by omega)]
  have U119 : g' 119 (wk_u Y).toNat = 10 := by rw [h119, if_pos rfl]
  have U120 : g' 120 (wk_u Y).toNat = wk_f Y := by rw [h120, if_pos rfl]
  have U124 : g' 124 (wk_u Y).toNat = -1 := by rw [h124, if_pos rfl]
  have U125 : g' 125 (wk_u Y).toNat = -1 := by rw [h125, if_pos rfl]
  have F146 : g' 146 (rd_k z + 1).toNat = wk_f Y := by rw [h146, if_pos rfl]
  have F148 : g' 148 (rd_k z + 1).toNat = wk_u Y := by rw [h148, if_pos rfl]
  have alts : ∀ n a, wk_alt g' n a = wk_alt g n a := by
    intro n
    induction n with
    | zero => intro a; rfl
    | succ n ih =>
      intro a
      show wk_alt g' n (g' 128 a.toNat) = wk_alt g n (g 128 a.toNat)
      rw [e128, ih]
  have tops : ∀ i, 0 ≤ i → i ≤ rd_k z → rd_top g' (rd_yg g Y z) (rd_zg z) i = rd_top g Y z i := fun i h0 h1 => by
    unfold rd_top
    rw [zk, if_pos (by omega)]
    by_cases c : i < rd_k z
    · rw [if_pos c, k148 (i + 1) (by omega) (by omega)]
    · have e : i = rd_k z := by omega
      subst e
      rw [if_neg c, F148]
  have m124 : ∀ (v : Int), 0 ≤ v → (∀ w, 0 ≤ w → w < wk_u Y → g 124 w.toNat ≠ v) → ∀ w, 0 ≤ w → w < wk_u Y + 1 → g' 124 w.toNat ≠ v := fun v v0 hv w w0 w1 => by
    by_cases c : w = wk_u Y
    · rw [c, U124]
      omega
    · rw [k124 w w0 (by omega)]
      exact hv w w0 (by omega)
  have lev0 : ∀ i, 0 ≤ i → i ≤ rd_k z → rd_lev0 g' (rd_yg g Y z) (rd_zg z) i := fun i h0 h1 => by
    obtain ⟨⟨t0, t1, t2, t3⟩, r2, r3, -⟩ := i4 i h0 h1
    unfold rd_lev0
    simp only [k146 i h0 h1, tops i h0 h1, k130 _ t0 t1, k129 _ t0 t1, yd _ t1, yx _ t1, e147, alts, yf, za]
    refine ⟨⟨t0, by omega, t2, t3⟩, r2, fun w w0 w1 wc => ?_⟩
    rw [yu] at w1
    by_cases c : w = wk_u Y
    · subst c
      rw [ycU] at wc
      have ei : i = rd_k z := by
        rw [← wc, f2] at t2
        exact t2.symm
      subst ei
      exact Or.inr ⟨by rw [zk]; omega, F148.symm⟩
    · have hw : w < wk_u Y := by omega
      rw [yc w hw] at wc
      rw [ye w hw]
      rcases r3 w w0 hw wc with x | x
      · exact Or.inl x
      · exact Or.inr ⟨by rw [zk]; omega, by rw [k148 (i + 1) (by omega) (by omega)]; exact x.2⟩
  refine ⟨⟨by rw [yu]; omega, by rw [yu]; omega, by rw [yf]; omega, by rw [yf]; omega, n5, n6, by rw [zk]; omega⟩, fun w h0 h1 => ?_, fun f h0 h1 => ?_, fun a h0 h1 => ?_, fun i h0 h1 => ?_, fun i h0 h1 => ?_, fun i h0 h1 => ?_⟩
  · rw [yu] at h1
    unfold rd_unit
    by_cases c : w = wk_u Y
    · subst c
      rw [U119, U120, U124, U125, yeU, ycU, yx _ f1, yb _ f1, yd _ f1, f2, f3, yf, ybF, yxF, ydF]
      exact ⟨⟨hU, Int.le_refl _, hb, f0, by omega⟩, fun x => absurd x (by decide), fun x => absurd x (by decide), fun x => absurd x (by decide), fun _ => ⟨n3, by omega, Int.le_refl _, rfl⟩, fun x => absurd x (by decide)⟩
    · have hw : w < wk_u Y := by omega
      obtain ⟨p1, p2, p3, p4, p5, p6⟩ := i1 w h0 hw
      obtain ⟨q1, q2, q3, q4, q5⟩ := p1
      rw [k119 w h0 hw, k120 w h0 hw, k124 w h0 hw, k125 w h0 hw, ye w hw, yc w hw, yx _ q5, yb _ q5, yd _ q5, yf]
      refine ⟨⟨q1, q2, q3, q4, by omega⟩, fun x => ?_, fun x => ?_, p4, fun x => ?_, p6⟩
      · obtain ⟨y1, y2, y3, y4⟩ := p2 x
        rw [yu, yc _ y1, k124 _ x y1]
        exact ⟨by omega, y2, y3, y4⟩
      · obtain ⟨y1, y2, y3, y4⟩ := p3 x
        rw [yu, yc _ y1]
        refine ⟨by omega, y2, y3, fun q => ?_⟩
        rw [ye _ (p2 q).1]
        exact y4 q
      · obtain ⟨y1, y2, y3, y4⟩ := p5 x
        rw [yx _ y2, yb _ y2, yd _ y2]
        exact ⟨y1, by omega, y3, y4⟩
  · rw [yf] at h1
    rw [zk, F146]
    by_cases c : f = wk_f Y
    · subst c
      have c130 : g' 130 (wk_f Y).toNat = 0 := by rw [h130, if_pos rfl]
      have c129 : g' 129 (wk_f Y).toNat = -1 := by rw [h129, if_pos rfl]
      rw [if_pos ⟨by omega, rfl⟩]
      unfold rd_form
      rw [c130, c129, ydF, ybF, yxF]
      exact ⟨by omega, by omega, Int.le_refl _, Int.le_refl _, (show (-1 : Int) < 0 from by decide), hU, Int.le_refl _, fun j hj => by exfalso; omega⟩
    · have hf : f < wk_f Y := by omega
      have hh := i2 f h0 hf
      rw [show (if 0 ≤ rd_k z ∧ f = g 146 (rd_k z).toNat then (1 : Int) else 1) = 1 from by split <;> rfl] at hh
      rw [if_neg (fun x => c x.2)]
      unfold rd_form at hh ⊢
      simp only [k129 f h0 hf, k130 f h0 hf, alts, yd f hf, yb f hf, yx f hf]
      exact hh
  · unfold rd_alt
    rw [e126, yu]
    by_cases c : g 126 a.toNat < 0
    · exact Or.inl c
    · rcases i3 a h0 h1 with x | x
      · exact absurd x c
      · rw [yc _ x.1]
        exact Or.inr ⟨by omega, x.2⟩
  · rw [zk] at h1
    by_cases c : i ≤ rd_k z
    · exact lev0 i h0 c
    · have ei : i = rd_k z + 1 := by omega
      subst ei
      unfold rd_lev0
      rw [F146, ydF, yxF, yf]
      refine ⟨⟨n3, by omega, rfl, rfl⟩, fun x => ?_, fun w w0 w1 wc => ?_⟩
      · exfalso
        rw [h130, if_pos rfl] at x
        omega
      · exfalso
        rw [yu] at w1
        by_cases c2 : w = wk_u Y
        · rw [c2, ycU] at wc
          omega
        · rw [yc w (by omega)] at wc
          have := (i1 w w0 (by omega)).1.2.2.2.2
          omega
  · rw [zk] at h1
    have hik : i ≤ rd_k z := by omega
    obtain ⟨a1, a2, a3⟩ := lev0 i h0 hik
    obtain ⟨-, -, -, r4, r5, r6⟩ := i4 i h0 hik
    refine ⟨a1, a2, a3, fun c => ?_, fun c => ?_, ?_⟩
    · rw [e149] at c ⊢
      obtain ⟨x1, x2, x3, x4, x5, x6⟩ := r4 c
      rw [k124 _ c x1, k125 _ c x1, yu, yc _ x1, ye _ x1, k146 i h0 hik, tops i h0 hik]
      refine ⟨by omega, x2, x3, x4, fun q => ?_, m124 _ c x6⟩
      rw [ye _ ((i1 _ c x1).2.1 q).1]
      exact x5 q
    · rw [e151] at c
      rw [e149]
      obtain ⟨x1, x2⟩ := r5 c
      rw [k124 _ x1 (r4 x1).1]
      exact ⟨x1, x2⟩
    · rw [e150, yu]
      omega
  · rw [zk] at h1
    unfold rd_grp
    by_cases c : i ≤ rd_k z
    · obtain ⟨x1, x2, x3, x4, x5, x6, x7, x8, x9, x10⟩ := i5 i h0 c
      obtain ⟨⟨t0, t1, -, -⟩, -⟩ := i4 i (by omega) c
      rw [k148 i (by omega) c, k146 i (by omega) c, k146 (i - 1) (by omega) (by omega), k119 _ x1 x2, k120 _ x1 x2, k124 _ x1 x2, k125 _ x1 x2, yc _ x2, ye _ x2, yb _ t1, yu]
      exact ⟨x1, by omega, x3, x4, x5, x6, x7, x8, x9, m124 _ x1 x10⟩
    · have ei : i = rd_k z + 1 := by omega
      subst ei
      rw [F148, F146, show rd_k z + 1 - 1 = rd_k z from by omega, k146 _ hk (Int.le_refl _), U119, U120, U124, U125, ycU, yeU, ybF, yu]
      refine ⟨n1, by omega, rfl, rfl, rfl, rfl, rfl, by decide, by decide, m124 _ n1 (fun w w0 w1 e => ?_)⟩
      have := ((i1 w w0 w1).2.1 (by omega)).1
      omega
end RDG
/-! reading: a pair is announced -/
section RDW
variable {g g' : wk_g} {Y : wk_Y} {z : rd_Z} {m : Int}
theorem rd_swap (hI : rd_I g Y z m) (s : ∀ j, j ∈ [119, 120, 124, 125, 126, 128, 129, 130, 146, 147, 148, 149, 150] → ∀ i, g' j i = g j i) (h151 : ∀ i : Nat, i ≠ (rd_k z).toNat → g' 151 i = g 151 i) (hl : 0 ≤ g 149 (rd_k z).toNat) (hm : g 124 (g 149 (rd_k z).toNat).toNat < 0) : rd_I g' Y z m := by
  obtain ⟨nn, i1, i2, i3, i4, i5⟩ := hI
  have e119 := s 119 (by decide)
  have e120 := s 120 (by decide)
  have e124 := s 124 (by decide)
  have e125 := s 125 (by decide)
  have e126 := s 126 (by decide)
  have e128 := s 128 (by decide)
  have e129 := s 129 (by decide)
  have e130 := s 130 (by decide)
  have e146 := s 146 (by decide)
  have e147 := s 147 (by decide)
  have e148 := s 148 (by decide)
  have e149 := s 149 (by decide)
  have e150 := s 150 (by decide)
  have alts : ∀ n a, wk_alt g' n a = wk_alt g n a := by
    intro n
    induction n with
    | zero => intro a; rfl
    | succ n ih =>
      intro a
      show wk_alt g' n (g' 128 a.toNat) = wk_alt g n (g 128 a.toNat)
      rw [e128, ih]
  refine ⟨nn, fun w h0 h1 => ?_, fun f h0 h1 => ?_, fun a h0 h1 => ?_, fun i h0 h1 => ?_, fun i h0 h1 => ?_⟩
  · have := i1 w h0 h1
    unfold rd_unit at this ⊢
    simp only [e119, e120, e124, e125]
    exact this
  · have := i2 f h0 h1
    unfold rd_form at this ⊢
    simp only [e129, e130, e146, alts]
    exact this
  · have := i3 a h0 h1
    unfold rd_alt at this ⊢
    rw [e126]
    exact this
  · obtain ⟨t, r2, r3, r4, r5, r6⟩ := i4 i h0 h1
    have etop : rd_top g' Y z i = rd_top g Y z i := by
      unfold rd_top
      rw [e148]
    unfold rd_lev
    simp only [e124, e125, e129, e130, e146, e147, e148, e149, e150, etop, alts]
    refine ⟨t, r2, r3, r4, fun c => ?_, r6⟩
    by_cases hik : i = rd_k z
    · subst hik
      exact ⟨hl, hm⟩
    · rw [h151 _ (by omega)] at c
      exact r5 c
  · have := i5 i h0 h1
    unfold rd_grp at this ⊢
    simp only [e119, e120, e124, e125, e146, e148]
    exact this
end RDW
/-! reading: a rule begins; the levels of before are forgotten -/
section RDR
variable {g g' : wk_g} {Y : wk_Y} {z : rd_Z} {m : Int}
def rd_yr (Y : wk_Y) : wk_Y := (fun w => wk_e Y w, fun w => wk_c Y w, fun f => if f = wk_f Y then wk_u Y - 1 else wk_b Y f, fun f => if f = wk_f Y then 60 else wk_x Y f, fun f => if f = wk_f Y then 0 else wk_d Y f, wk_u Y, wk_f Y + 1)
def rd_zr (z : rd_Z) : rd_Z := (fun a => rd_ow z a, fun a => rd_ix z a, rd_a z, 0)
theorem rd_rule (hI : rd_I g Y z 1) (hF : wk_f Y < 80)
    (s : ∀ j, j ∈ [119, 120, 124, 125, 126, 128] → ∀ i, g' j i = g j i)
    (h129 : ∀ i : Nat, g' 129 i = if i = (wk_f Y).toNat then -1 else g 129 i) (h130 : ∀ i : Nat, g' 130 i = if i = (wk_f Y).toNat then 0 else g 130 i)
    (h146 : g' 146 0 = wk_f Y) : rd_J g' (rd_yr Y) (rd_zr z) 0 ∧ wk_Lrule (rd_yr Y) (wk_f Y) := by
  obtain ⟨⟨n1, n2, n3, n4, n5, n6, n7⟩, i1, i2, i3, -, -⟩ := hI
  have e119 := s 119 (by decide)
  have e120 := s 120 (by decide)
  have e124 := s 124 (by decide)
  have e125 := s 125 (by decide)
  have e126 := s 126 (by decide)
  have e128 := s 128 (by decide)
  have yf : wk_f (rd_yr Y) = wk_f Y + 1 := rfl
  have yu : wk_u (rd_yr Y) = wk_u Y := rfl
  have ye : ∀ w, wk_e (rd_yr Y) w = wk_e Y w := fun _ => rfl
  have yc : ∀ w, wk_c (rd_yr Y) w = wk_c Y w := fun _ => rfl
  have yb : ∀ f, f < wk_f Y → wk_b (rd_yr Y) f = wk_b Y f := fun f h => if_neg (show ¬ f = wk_f Y by omega)
  have yx : ∀ f, f < wk_f Y → wk_x (rd_yr Y) f = wk_x Y f := fun f h => if_neg (show ¬ f = wk_f Y by omega)
  have yd : ∀ f, f < wk_f Y → wk_d (rd_yr Y) f = wk_d Y f := fun f h => if_neg (show ¬ f = wk_f Y by omega)
  have ybF : wk_b (rd_yr Y) (wk_f Y) = wk_u Y - 1 := if_pos rfl
  have yxF : wk_x (rd_yr Y) (wk_f Y) = 60 := if_pos rfl
  have ydF : wk_d (rd_yr Y) (wk_f Y) = 0 := if_pos rfl
  have zk : rd_k (rd_zr z) = 0 := rfl
  have za : rd_a (rd_zr z) = rd_a z := rfl
  have k129 : ∀ f, 0 ≤ f → f < wk_f Y → g' 129 f.toNat = g 129 f.toNat := fun w a b => by rw [h129, if_neg (by omega)]
  have k130 : ∀ f, 0 ≤ f → f < wk_f Y → g' 130 f.toNat = g 130 f.toNat := fun w a b => by rw [h130, if_neg (by omega)]
  have F146 : g' 146 (rd_k (rd_zr z)).toNat = wk_f Y := h146
  have alts : ∀ n a, wk_alt g' n a = wk_alt g n a := by
    intro n
    induction n with
    | zero => intro a; rfl
    | succ n ih =>
      intro a
      show wk_alt g' n (g' 128 a.toNat) = wk_alt g n (g 128 a.toNat)
      rw [e128, ih]
  refine ⟨⟨⟨n1, n2, by rw [yf]; omega, by rw [yf]; omega, n5, n6, by rw [zk]; decide⟩, fun w h0 h1 => ?_, fun f h0 h1 => ?_, fun a h0 h1 => ?_, fun i h0 h1 => ?_, fun i h0 h1 => ?_, fun i h0 h1 => ?_⟩, ?_⟩
  · obtain ⟨⟨q1, q2, q3, q4, q5⟩, p2, p3, p4, p5, p6⟩ := i1 w h0 h1
    unfold rd_unit
    simp only [e119, e120, e124, e125, ye, yc, yu, yf]
    rw [yx _ q5, yb _ q5, yd _ q5]
    refine ⟨⟨q1, q2, q3, q4, by omega⟩, p2, p3, p4, fun x => ?_, p6⟩
    obtain ⟨y1, y2, y3, y4⟩ := p5 x
    rw [yx _ y2, yb _ y2, yd _ y2]
    exact ⟨y1, by omega, y3, y4⟩
  · rw [yf] at h1
    rw [F146]
    by_cases c : f = wk_f Y
    · subst c
      have c130 : g' 130 (wk_f Y).toNat = 0 := by rw [h130, if_pos rfl]
      have c129 : g' 129 (wk_f Y).toNat = -1 := by rw [h129, if_pos rfl]
      rw [if_pos ⟨by rw [zk]; decide, rfl⟩]
      unfold rd_form
      rw [c130, c129, ydF, ybF, yxF]
      exact ⟨by decide, by decide, Int.le_refl _, Int.le_refl _, (show (-1 : Int) < 0 from by decide), by omega, Int.le_refl _, fun j hj => by exfalso; omega⟩
    · have hf : f < wk_f Y := by omega
      have hh := i2 f h0 hf
      rw [show (if 0 ≤ rd_k z ∧ f = g 146 (rd_k z).toNat then (1 : Int) else 1) = 1 from by split <;> rfl] at hh
      rw [if_neg (fun x => c x.2)]
      unfold rd_form at hh ⊢
      simp only [k129 f h0 hf, k130 f h0 hf, alts, yd f hf, yb f hf, yx f hf]
      exact hh
  · have := i3 a h0 h1
    unfold rd_alt at this ⊢
    rw [e126]
    exact this
  · rw [zk] at h1
    have ei : i = 0 := by omega
    subst ei
    unfold rd_lev0
    rw [show g' 146 (Int.toNat 0) = wk_f Y from h146, ydF, yxF, yf]
    refine ⟨⟨n3, by omega, rfl, rfl⟩, fun x => ?_, fun w w0 w1 wc => ?_⟩
    · exfalso
      rw [h130, if_pos rfl] at x
      omega
    · exfalso
      have wc : wk_c Y w = wk_f Y := wc
      have := (i1 w w0 w1).1.2.2.2.2
      omega
  · rw [zk] at h1
    exfalso; omega
  · rw [zk] at h1
    exfalso; omega
  · refine ⟨n3, by rw [yf]; omega, ?_⟩
    rw [yxF, ybF]
    omega
end RDR
/-! READING, the program: what holds while a rule is read -/
section RSC
variable {g g' : wk_g} {Y : wk_Y} {z : rd_Z} {m : Int}
/-- nothing that the invariant speaks of has changed -/
theorem rd_cg (hI : rd_I g Y z m) (s : ∀ j, j ∈ [119, 120, 124, 125, 126, 128, 129, 130, 146, 147, 148, 149, 150, 151] → ∀ i, g' j i = g j i) : rd_I g' Y z m := by
  obtain ⟨nn, i1, i2, i3, i4, i5⟩ := hI
  have e119 := s 119 (by decide)
  have e120 := s 120 (by decide)
  have e124 := s 124 (by decide)
  have e125 := s 125 (by decide)
  have e126 := s 126 (by decide)
  have e128 := s 128 (by decide)
  have e129 := s 129 (by decide)
  have e130 := s 130 (by decide)
  have e146 := s 146 (by decide)
  have e147 := s 147 (by decide)
  have e148 := s 148 (by decide)
  have e149 := s 149 (by decide)
  have e150 := s 150 (by decide)
  have e151 := s 151 (by decide)
  have alts : ∀ n a, wk_alt g' n a = wk_alt g n a := by
    intro n
    induction n with
    | zero => intro a; rfl
    | succ n ih =>
      intro a
      show wk_alt g' n (g' 128 a.toNat) = wk_alt g n (g 128 a.toNat)
      rw [e128, ih]
  refine ⟨nn, fun w h0 h1 => ?_, fun f h0 h1 => ?_, fun a h0 h1 => ?_, fun i h0 h1 => ?_, fun i h0 h1 => ?_⟩
  · have := i1 w h0 h1
    unfold rd_unit at this ⊢
    simp only [e119, e120, e124, e125]
    exact this
  · have := i2 f h0 h1
    unfold rd_form at this ⊢
    simp only [e129, e130, e146, alts]
    exact this
  · have := i3 a h0 h1
    unfold rd_alt at this ⊢
    rw [e126]
    exact this
  · have := i4 i h0 h1
    have etop : rd_top g' Y z i = rd_top g Y z i := by
      unfold rd_top
      rw [e148]
    unfold rd_lev at this ⊢
    simp only [e124, e125, e129, e130, e146, e147, e148, e149, e150, e151, etop, alts]
    exact this
  · have := i5 i h0 h1
    unfold rd_grp at this ⊢
    simp only [e119, e120, e124, e125, e146, e148]
    exact this
/-- a unit's word changes, where nothing speaks of it -/
theorem rd_word {U : Int} (hI : rd_I g Y z m) (s : ∀ j, j ∈ [119, 124, 125, 126, 128, 129, 130, 146, 147, 148, 149, 150, 151] → ∀ i, g' j i = g j i) (h120 : ∀ i : Nat, i ≠ U.toNat → g' 120 i = g 120 i) (n8 : g 119 U.toNat ≠ 8) (n9 : g 119 U.toNat ≠ 9) (n10 : g 119 U.toNat ≠ 10) : rd_I g' Y z m := by
  obtain ⟨nn, i1, i2, i3, i4, i5⟩ := hI
  have e119 := s 119 (by decide)
  have e124 := s 124 (by decide)
  have e125 := s 125 (by decide)
  have e126 := s 126 (by decide)
  have e128 := s 128 (by decide)
  have e129 := s 129 (by decide)
  have e130 := s 130 (by decide)
  have e146 := s 146 (by decide)
  have e147 := s 147 (by decide)
  have e148 := s 148 (by decide)
  have e149 := s 149 (by decide)
  have e150 := s 150 (by decide)
  have e151 := s 151 (by decide)
  have alts : ∀ n a, wk_alt g' n a = wk_alt g n a := by
    intro n
    induction n with
    | zero => intro a; rfl
    | succ n ih =>
      intro a
      show wk_alt g' n (g' 128 a.toNat) = wk_alt g n (g 128 a.toNat)
      rw [e128, ih]
  refine ⟨nn, fun w h0 h1 => ?_, fun f h0 h1 => ?_, fun a h0 h1 => ?_, fun i h0 h1 => ?_, fun i h0 h1 => ?_⟩
  · obtain ⟨u1, u2, u3, u4, u5, u6⟩ := i1 w h0 h1
    unfold rd_unit
    simp only [e119, e124, e125]
    by_cases c : w.toNat = U.toNat
    · refine ⟨u1, u2, u3, fun x => ?_, fun x => ?_, fun x => ?_⟩
      · rw [c] at x; exact absurd x n9
      · rw [c] at x; exact absurd x n10
      · rw [c] at x; exact absurd x n8
    · rw [h120 _ c]
      exact ⟨u1, u2, u3, u4, u5, u6⟩
  · have := i2 f h0 h1
    unfold rd_form at this ⊢
    simp only [e129, e130, e146, alts]
    exact this
  · have := i3 a h0 h1
    unfold rd_alt at this ⊢
    rw [e126]
    exact this
  · have := i4 i h0 h1
    have etop : rd_top g' Y z i = rd_top g Y z i := by
      unfold rd_top
      rw [e148]
    unfold rd_lev at this ⊢
    simp only [e124, e125, e129, e130, e146, e147, e148, e149, e150, e151, etop, alts]
    exact this
  · obtain ⟨x1, x2, x3, x4, x5, x6⟩ := i5 i h0 h1
    have c : (g 148 i.toNat).toNat ≠ U.toNat := fun e => by rw [e] at x4; exact n10 x4
    unfold rd_grp
    simp only [e119, e124, e125, e146, e148]
    rw [h120 _ c]
    exact ⟨x1, x2, x3, x4, x5, x6⟩
end RSC
/-- the rules that are there -/
def rs_P (h : sm_H) : Prop := ∀ u, 0 ≤ u → u < mi_f h 13963 → 0 ≤ mi_a h 121 u.toNat ∧ mi_a h 121 u.toNat ≤ 241
def rs_R (h : sm_H) (Y : wk_Y) : Prop := (∀ r, 0 ≤ r → r < mi_f h 13961 → wk_Lrule Y (mi_a h 114 r.toNat)) ∧ (∀ n : Nat, n < 26 → mi_a h 115 n < mi_f h 13961) ∧ rs_P h
/-- between rules; q: how many alternatives may still come before a part -/
def rs_B (h : sm_H) (Y : wk_Y) (z : rd_Z) (q : Int) : Prop :=
  rd_I (mi_a h) Y z 1 ∧ wk_u Y = mi_f h 13963 ∧ wk_f Y = mi_f h 13965 ∧ rd_a z = mi_f h 13964 ∧ mi_f h 13964 + q ≤ mi_f h 13963 + mi_f h 13961 ∧ mi_f h 13965 ≤ mi_f h 13963 + mi_f h 13961 ∧ rs_R h Y ∧ ∀ f, 0 ≤ f → f < mi_f h 13965 → mi_a h 130 f.toNat ≤ 6
/-- within a rule -/
def rs_I (h : sm_H) (Y : wk_Y) (z : rd_Z) (q : Int) : Prop := rs_B h Y z q ∧ rd_k z = mi_f h 14003 ∧ wk_b Y (mi_a h 146 0) < wk_u Y
def rs_c : List Nat := [13961, 13963, 13964, 13965, 14003, 14592, 14720, 15232, 15360, 15488, 15872, 16000, 16128, 16384, 16512, 16640, 18688, 18816, 18944, 19072, 19200, 19328]
section RSF
variable {h h' : sm_H} {Y : wk_Y} {z : rd_Z} {q : Int} {wr : List (Nat × Nat)}
theorem rs_fr (hI : rs_I h Y z q) (hS : ab_Sh sx_sk h) (hF : ab_Fr wr h h') (hw : rs_c.all (fun c => !ab_in wr c) = true) : rs_I h' Y z q := by
  have n : ∀ c, c ∈ rs_c → ab_in wr c = false := fun c hc => by
    have := List.all_eq_true.mp hw c hc
    rwa [Bool.not_eq_true'] at this
  obtain ⟨⟨i1, i2, i3, i4, i5, i6, ⟨i7, i8, i8p⟩, i9⟩, i10, i11⟩ := hI
  have f61 : mi_f h' 13961 = mi_f h 13961 := me_f hF hS rfl (n _ (by decide))
  have f63 : mi_f h' 13963 = mi_f h 13963 := me_f hF hS rfl (n _ (by decide))
  have f64 : mi_f h' 13964 = mi_f h 13964 := me_f hF hS rfl (n _ (by decide))
  have f65 : mi_f h' 13965 = mi_f h 13965 := me_f hF hS rfl (n _ (by decide))
  have f3 : mi_f h' 14003 = mi_f h 14003 := me_f hF hS rfl (n _ (by decide))
  have a114 : ∀ i, mi_a h' 114 i = mi_a h 114 i := fun i => me_a hF hS rfl (n _ (by decide))
  have a115 : ∀ i, mi_a h' 115 i = mi_a h 115 i := fun i => me_a hF hS rfl (n _ (by decide))
  have a119 : ∀ i, mi_a h' 119 i = mi_a h 119 i := fun i => me_a hF hS rfl (n _ (by decide))
  have a120 : ∀ i, mi_a h' 120 i = mi_a h 120 i := fun i => me_a hF hS rfl (n _ (by decide))
  have a121 : ∀ i, mi_a h' 121 i = mi_a h 121 i := fun i => me_a hF hS rfl (n _ (by decide))
  have a124 : ∀ i, mi_a h' 124 i = mi_a h 124 i := fun i => me_a hF hS rfl (n _ (by decide))
  have a125 : ∀ i, mi_a h' 125 i = mi_a h 125 i := fun i => me_a hF hS rfl (n _ (by decide))
  have a126 : ∀ i, mi_a h' 126 i = mi_a h 126 i := fun i => me_a hF hS rfl (n _ (by decide))
  have a128 : ∀ i, mi_a h' 128 i = mi_a h 128 i := fun i => me_a hF hS rfl (n _ (by decide))
  have a129 : ∀ i, mi_a h' 129 i = mi_a h 129 i := fun i => me_a hF hS rfl (n _ (by decide))
  have a130 : ∀ i, mi_a h' 130 i = mi_a h 130 i := fun i => me_a hF hS rfl (n _ (by decide))
  have a146 : ∀ i, mi_a h' 146 i = mi_a h 146 i := fun i => me_a hF hS rfl (n _ (by decide))
  have a147 : ∀ i, mi_a h' 147 i = mi_a h 147 i := fun i => me_a hF hS rfl (n _ (by decide))
  have a148 : ∀ i, mi_a h' 148 i = mi_a h 148 i := fun i => me_a hF hS rfl (n _ (by decide))
  have a149 : ∀ i, mi_a h' 149 i = mi_a h 149 i := fun i => me_a hF hS rfl (n _ (by decide))
  have a150 : ∀ i, mi_a h' 150 i = mi_a h 150 i := fun i => me_a hF hS rfl (n _ (by decide))
  have a151 : ∀ i, mi_a h' 151 i = mi_a h 151 i := fun i => me_a hF hS rfl (n _ (by decide))
  unfold rs_I rs_B rs_R rs_P
  simp only [f61, f63, f64, f65, f3, a114, a115, a121, a130, a146]
  refine ⟨⟨rd_cg i1 (fun j hj i => ?_), i2, i3, i4, i5, i6, ⟨i7, i8, i8p⟩, i9⟩, i10, i11⟩
  simp only [List.mem_cons, List.not_mem_nil, or_false] at hj
  rcases hj with rfl | rfl | rfl | rfl | rfl | rfl | rfl | rfl | rfl | rfl | rfl | rfl | rfl | rfl
  · exact a119 i
  · exact a120 i
  · exact a124 i
  · exact a125 i
  · exact a126 i
  · exact a128 i
  · exact a129 i
  · exact a130 i
  · exact a146 i
  · exact a147 i
  · exact a148 i
  · exact a149 i
  · exact a150 i
  · exact a151 i
/-- what the top level gives -/
theorem rs_lev (hI : rs_I h Y z q) (hS : ab_Sh sx_sk h) : (0 ≤ mi_f h 14003 ∧ mi_f h 14003 ≤ 4) ∧ (0 ≤ mi_a h 146 (mi_f h 14003).toNat ∧ mi_a h 146 (mi_f h 14003).toNat < 80 ∧ mi_a h 146 (mi_f h 14003).toNat < mi_f h 13965) ∧ 1 ≤ mi_a h 130 (mi_a h 146 (mi_f h 14003).toNat).toNat ∧ (0 ≤ mi_a h 147 (mi_f h 14003).toNat ∧ mi_a h 147 (mi_f h 14003).toNat < 80) ∧ (mi_a h 151 (mi_f h 14003).toNat ≠ 0 → 0 ≤ mi_a h 149 (mi_f h 14003).toNat) ∧ mi_a h 149 (mi_f h 14003).toNat < 60 ∧ mi_a h 150 (mi_f h 14003).toNat < 60 ∧ wk_b Y (mi_a h 146 (mi_f h 14003).toNat) < wk_u Y := by
  obtain ⟨⟨⟨nn, i1, i2, i3, i4, i5⟩, e1, e2, e3, e4, e5, e6, e7⟩, e8, e9⟩ := hI
  have b3 := me_fb (c := 14003) hS rfl
  obtain ⟨n1, n2, n3, n4, n5, n6, n7⟩ := nn
  obtain ⟨⟨t1, t2, t3, t4⟩, r2, r3, r4, r5, r6⟩ := i4 (rd_k z) (by omega) (Int.le_refl _)
  have ff := i2 _ t1 t2
  rw [if_pos ⟨by omega, rfl⟩] at ff
  have c1 := ff.2.2.1
  obtain ⟨r21, r22, -⟩ := r2 (by omega)
  rw [e8] at t1 t2 c1 r21 r22 r4 r5 r6
  refine ⟨⟨by omega, by omega⟩, ⟨t1, by omega, by omega⟩, c1, ⟨r21, by omega⟩, fun c => (r5 c).1, ?_, by omega, ?_⟩
  · by_cases c : 0 ≤ mi_a h 149 (mi_f h 14003).toNat
    · have := (r4 c).1
      omega
    · omega
  · by_cases c : mi_f h 14003 = 0
    · rw [c]
      exact e9
    · obtain ⟨x1, x2, x3, x4, x5, x6, x7, x8⟩ := i5 (mi_f h 14003) (by omega) (by omega)
      rw [x7]
      exact x2
end RSF
section RSS
variable {h : sm_H} {d : Nat}
theorem me_nvi {c : Nat} {lo hi : Int} (hv : ab_nv (1, lo, hi, []) (ab_fld h c)) : lo ≤ mi_f h c ∧ mi_f h c ≤ hi := by
  obtain ⟨x, e, l, u, -⟩ := hv
  have : mi_f h c = x.toInt := by
    unfold mi_f mx_i
    rw [e]
  rw [this]
  exact ⟨l, u⟩
theorem me_nvl {c : Nat} {lo hi : Int} (hv : ab_nv (2, lo, hi, []) (ab_fld h c)) : lo ≤ (mx_l h c).toInt ∧ (mx_l h c).toInt ≤ hi := by
  obtain ⟨x, e, l, u⟩ := hv
  have : mx_l h c = x := by
    unfold mx_l
    rw [e]
  rw [this]
  exact ⟨l, u⟩
def sn_W : List (Nat × Nat) := [(14000, 14003), (14004, 14005)]
/-- a token has been scanned -/
def sn_R (h : sm_H) : Prop := (0 ≤ mi_f h 14002 ∧ mi_f h 14002 ≤ 241) ∧ (mi_f h 14001 ≠ 0 → mi_f h 14001 ≠ 6 → mi_f h 14000 ≤ 241) ∧ (mi_f h 14001 = 2 → 0 ≤ (mx_l h 14004).toInt32.toInt ∧ (mx_l h 14004).toInt32.toInt < 26) ∧ 0 ≤ mi_f h 14001 ∧ mi_f h 14001 ≤ 126
theorem me_scan (hS : ab_Sh sx_sk h) (ha : mi_f h 14000 ≤ 241) : me_E (d + 2) 177 0 [some (.inr (.inr 109)), none, none, none] [] h (fun w h' => w = none ∧ ab_Sh sx_sk h' ∧ ab_Fr sn_W h h' ∧ sn_R h') := by
  have b0 := me_fb (c := 14000) hS rfl
  have := me_abs (M := (4, 0, sb_177)) (as := [.inr (.inr 109)]) xo_v_scan rfl hS ⟨rfl, trivial⟩ (fun e he => by
    rw [List.mem_singleton.mp he]
    exact me_nvf (c := 14000) hS rfl b0.1 ha) (by decide)
  refine (me_E.deep (d' := d + 2) this (Nat.le_add_left _ _)).imp (fun w h' hq => ?_)
  obtain ⟨q1, q2, p, pm, pr, pH⟩ := hq
  have ew : w = none := by
    unfold mi_res at pr
    rwa [if_pos rfl] at pr
  refine ⟨ew, q1, q2, ?_⟩
  have four : ∀ {a b c e : ab_V} {u : ab_V}, p = (u, [(14000, a), (14001, b), (14002, c), (14004, e)]) → ab_nv a (ab_fld h' 14000) ∧ ab_nv b (ab_fld h' 14001) ∧ ab_nv c (ab_fld h' 14002) ∧ ab_nv e (ab_fld h' 14004) := fun {a b c e u} hp => by
    subst hp
    exact ⟨pH (14000, a) (by simp), pH (14001, b) (by simp), pH (14002, c) (by simp), pH (14004, e) (by simp)⟩
  have conv : ∀ {b : Int}, 0 ≤ (mx_l h' 14004).toInt → (mx_l h' 14004).toInt ≤ b → b ≤ 25 → 0 ≤ (mx_l h' 14004).toInt32.toInt ∧ (mx_l h' 14004).toInt32.toInt < 26 := fun {b} c0 c1 c2 => by
    rw [Int64.toInt_toInt32, Int.bmod_eq_of_le (by omega) (by omega)]
    omega
  unfold sn_R
  simp only [xc_v_scan, List.mem_cons, List.not_mem_nil, or_false] at pm
  rcases pm with e | e | e | e | e | e
  all_goals
    obtain ⟨x1, x2, x3, x4⟩ := four e
    have y1 := me_nvi x1
    have y2 := me_nvi x2
    have y3 := me_nvi x3
    have y4 := me_nvl x4
    refine ⟨⟨y3.1, by omega⟩, fun _ _ => by omega, fun c => ?_, by omega, by omega⟩
    first
      | exact conv y4.1 y4.2 (by omega)
      | (exfalso; omega)
theorem me_sortOf {x : Int64} (hS : ab_Sh sx_sk h) : me_E d 189 0 [some (.inr (.inl x)), none] [] h (fun w h' => h' = h ∧ ∃ z, w = some (.inl z) ∧ -1 ≤ z ∧ z ≤ 7) := by
  have := me_abs (M := (2, 1, sb_189)) (as := [.inr (.inl x)]) xo_v_sortOf rfl hS ⟨me_nvL x, trivial⟩ (fun e he => by cases he) (by decide)
  refine (me_E.deep (d' := d) this (Nat.zero_le _)).imp (fun w h' hq => ?_)
  obtain ⟨q1, q2, p, hp, q3, -⟩ := hq
  refine ⟨me_nil q2, ?_⟩
  rcases List.mem_cons.mp hp with rfl | hp
  · exact me_resI q3 (by decide) rfl
  · cases hp
def lt_W : List (Nat × Nat) := [(13962, 13963), (14976, 14977), (15104, 15105)]
theorem me_literal (hS : ab_Sh sx_sk h) : me_E d 191 0 [some (.inr (.inr 109)), none] [] h (fun w h' => ab_Sh sx_sk h' ∧ ab_Fr lt_W h h' ∧ ∃ z, w = some (.inl z) ∧ 0 ≤ z ∧ z ≤ 20) := by
  have := me_abs (M := (2, 1, sb_191)) (as := [.inr (.inr 109)]) xo_v_literal rfl hS ⟨rfl, trivial⟩ (fun e he => by cases he) (by decide)
  refine (me_E.deep (d' := d) this (Nat.zero_le _)).imp (fun w h' hq => ?_)
  obtain ⟨q1, q2, p, hp, q3, -⟩ := hq
  refine ⟨q1, q2, ?_⟩
  rcases List.mem_cons.mp hp with rfl | hp
  · exact me_resI q3 (by decide) rfl
  · cases hp
def xc_v_isPart0 : ab_C := (188, [(3, 109, 0, [])], [(14001, (1, 0, 0, []))], [((1, 0, 0, []), [])], [], 1)
theorem xo_v_isPart0 : ab_Ok sc_P sx_sk xc_v_isPart0 := ab_good_ok (env := []) (heads := []) (fuel := 61) (by decide +kernel) (fun _ h => absurd h List.not_mem_nil)
def xc_v_isPart6 : ab_C := (188, [(3, 109, 0, [])], [(14001, (1, 6, 6, []))], [((1, 0, 0, []), [])], [], 1)
theorem xo_v_isPart6 : ab_Ok sc_P sx_sk xc_v_isPart6 := ab_good_ok (env := []) (heads := []) (fuel := 61) (by decide +kernel) (fun _ h => absurd h List.not_mem_nil)
theorem me_isPart (hS : ab_Sh sx_sk h) : me_E (d + 1) 188 0 [some (.inr (.inr 109))] [] h (fun w h' => h' = h ∧ ∃ z, w = some (.inl z) ∧ 0 ≤ z ∧ z ≤ 1 ∧ (z ≠ 0 → mi_f h 14001 ≠ 0 ∧ mi_f h 14001 ≠ 6)) := by
  by_cases c0 : mi_f h 14001 = 0
  · have := me_abs (M := (1, 4, sb_188)) (as := [.inr (.inr 109)]) xo_v_isPart0 rfl hS ⟨rfl, trivial⟩ (fun e he => by
      rw [List.mem_singleton.mp he]
      exact me_nvf (c := 14001) hS rfl (by omega) (by omega)) (by decide)
    refine (me_E.deep (d' := d + 1) this (Nat.le_add_left _ _)).imp (fun w h' hq => ?_)
    obtain ⟨q1, q2, p, hp, q3, -⟩ := hq
    refine ⟨me_nil q2, ?_⟩
    rcases List.mem_cons.mp hp with rfl | hp
    · obtain ⟨z, e, z0, z1⟩ := me_resI q3 (by decide) rfl
      have z0 : (0 : Int) ≤ z := z0
      have z1 : z ≤ 0 := z1
      exact ⟨z, e, z0, by omega, fun c => by omega⟩
    · cases hp
  by_cases c6 : mi_f h 14001 = 6
  · have := me_abs (M := (1, 4, sb_188)) (as := [.inr (.inr 109)]) xo_v_isPart6 rfl hS ⟨rfl, trivial⟩ (fun e he => by
      rw [List.mem_singleton.mp he]
      exact me_nvf (c := 14001) hS rfl (by omega) (by omega)) (by decide)
    refine (me_E.deep (d' := d + 1) this (Nat.le_add_left _ _)).imp (fun w h' hq => ?_)
    obtain ⟨q1, q2, p, hp, q3, -⟩ := hq
    refine ⟨me_nil q2, ?_⟩
    rcases List.mem_cons.mp hp with rfl | hp
    · obtain ⟨z, e, z0, z1⟩ := me_resI q3 (by decide) rfl
      have z0 : (0 : Int) ≤ z := z0
      have z1 : z ≤ 0 := z1
      exact ⟨z, e, z0, by omega, fun c => by omega⟩
    · cases hp
  have := me_abs (M := (1, 4, sb_188)) (as := [.inr (.inr 109)]) xo_v_isPart rfl hS ⟨rfl, trivial⟩ (fun e he => by cases he) (by decide)
  refine (me_E.deep (d' := d + 1) this (Nat.le_add_left _ _)).imp (fun w h' hq => ?_)
  obtain ⟨q1, q2, p, hp, q3, -⟩ := hq
  refine ⟨me_nil q2, ?_⟩
  rcases List.mem_cons.mp hp with rfl | hp
  · obtain ⟨z, e, z0, z1⟩ := me_resI q3 (by decide) rfl
    exact ⟨z, e, z0, z1, fun _ => ⟨c0, c6⟩⟩
  · cases hp
end RSS
