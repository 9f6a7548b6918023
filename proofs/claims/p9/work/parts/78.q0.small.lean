/-! reading: newForm, blame, begin, put -/
section RDS
variable {d : Nat} {h : sm_H}
theorem me_newForm (hS : ab_Sh sx_sk h) (hf : mi_f h 13965 < 80) : me_E d 185 0 [some (.inr (.inr 109))] [] h (fun w h' => w = some (.inl (mi_f h 13965)) ∧ ab_Sh sx_sk h' ∧ ab_Fr [(13965, 13966), (16512, 16513), (16640, 16641)] h h' ∧ mi_f h' 13965 = mi_f h 13965 + 1 ∧ (∀ i, mi_a h' 129 i = if i = (mi_f h 13965).toNat then -1 else mi_a h 129 i) ∧ ∀ i, mi_a h' 130 i = if i = (mi_f h 13965).toNat then 0 else mi_a h 130 i) := by
  refine mt_nf hS ?_
  intro b
  exact ⟨by omega, fun h1 g1 g2 g3 g4 g5 => ⟨rfl, g1, g5, g2, g3, g4⟩⟩
theorem me_blame {zf zp : Int} (hS : ab_Sh sx_sk h) (f0 : 1 ≤ zf) (f1 : zf ≤ 9) (p0 : 0 ≤ zp) (p1 : zp ≤ 1000) (h0 : 0 ≤ mi_f h 13960) : me_E d 184 0 [some (.inr (.inr 109)), some (.inl zf), some (.inl zp)] [] h (fun w h' => w = none ∧ ab_Sh sx_sk h' ∧ ab_Fr [(13960, 13961)] h h' ∧ 0 < mi_f h' 13960) := by
  refine mt_bl hS ⟨by omega, by omega⟩ ⟨by omega, by omega⟩ ?_ ?_
  · intro b c h1 g1 g2
    have e := me_nil g2
    subst e
    exact ⟨rfl, g1, ab_Fr.refl, by omega⟩
  · intro b c
    refine ⟨by omega, fun h1 g1 g2 g3 => ⟨rfl, g1, g3, by omega⟩⟩
def bg_W : List (Nat × Nat) := [(13964, 13965), (16128, 16129), (16256, 16257), (16384, 16385), (16512, 16513), (16640, 16641), (18816, 18817), (19072, 19073), (19200, 19201), (19328, 19329)]
/-- begin: k the level, f its form, a the new alternative -/
def bg_R (h h' : sm_H) : Prop :=
  mi_f h' 13964 = mi_f h 13964 + 1 ∧
  (∀ i, mi_a h' 126 i = if i = (mi_f h 13964).toNat then -1 else mi_a h 126 i) ∧
  (∀ i, mi_a h' 128 i = if mi_a h 130 (mi_a h 146 (mi_f h 14003).toNat).toNat ≠ 0 ∧ i = (mi_a h 147 (mi_f h 14003).toNat).toNat then mi_f h 13964 else if i = (mi_f h 13964).toNat then -1 else mi_a h 128 i) ∧
  (∀ i, mi_a h' 129 i = if mi_a h 130 (mi_a h 146 (mi_f h 14003).toNat).toNat = 0 ∧ i = (mi_a h 146 (mi_f h 14003).toNat).toNat then mi_f h 13964 else mi_a h 129 i) ∧
  (∀ i, mi_a h' 130 i = if i = (mi_a h 146 (mi_f h 14003).toNat).toNat then mi_a h 130 i + 1 else mi_a h 130 i) ∧
  (∀ i, mi_a h' 147 i = if i = (mi_f h 14003).toNat then mi_f h 13964 else mi_a h 147 i) ∧
  (∀ i, mi_a h' 149 i = if i = (mi_f h 14003).toNat then -1 else mi_a h 149 i) ∧
  (∀ i, mi_a h' 150 i = if i = (mi_f h 14003).toNat then -1 else mi_a h 150 i) ∧
  (∀ i, mi_a h' 151 i = if i = (mi_f h 14003).toNat then 0 else mi_a h 151 i)
theorem me_begin {zp : Int} (hS : ab_Sh sx_sk h) (op : mi_in zp) (ha : mi_f h 13964 < 80) (hk : mi_f h 14003 < 6) (hf0 : 0 ≤ mi_a h 146 (mi_f h 14003).toNat) (hf1 : mi_a h 146 (mi_f h 14003).toNat < 80) (hc : mi_a h 130 (mi_a h 146 (mi_f h 14003).toNat).toNat ≤ 6) (hb : mi_a h 130 (mi_a h 146 (mi_f h 14003).toNat).toNat ≠ 0 → 0 ≤ mi_a h 147 (mi_f h 14003).toNat ∧ mi_a h 147 (mi_f h 14003).toNat < 80) : me_E d 187 0 [some (.inr (.inr 109)), some (.inl zp), none, none] [] h (fun w h' => w = none ∧ ab_Sh sx_sk h' ∧ ab_Fr bg_W h h' ∧ bg_R h h') := by
  have b130 := me_ab (k := 130) (i := (mi_a h 146 (mi_f h 14003).toNat).toNat) hS rfl (by decide) (by omega)
  have b3 := me_fb (c := 14003) hS rfl
  have b4 := me_fb (c := 13964) hS rfl
  refine mt_bgA hS op ?_ ?_
  · intro b1 b2 c
    have hb := hb c
    refine ⟨by omega, fun h1 g1 g2 g3 g4 g5 g6 => ?_⟩
    have e3 : mi_f h1 14003 = mi_f h 14003 := me_f (c := 14003) g6 hS rfl rfl
    have e130 : ∀ i, mi_a h1 130 i = mi_a h 130 i := fun i => me_a (k := 130) g6 hS rfl rfl
    refine mt_bgB g1 op ⟨by omega, by omega⟩ ⟨by omega, by omega⟩ ?_
    intro b5
    refine ⟨by rw [e130]; omega, fun h2 r1 r2 r3 r4 r5 r6 r7 => ⟨rfl, r1, (g6.wide (fun c hc => ab_swr_ok (by decide) hc)).trans (r7.wide (fun c hc => ab_swr_ok (by decide) hc)), (me_f (c := 13964) r7 g1 rfl rfl).trans g2, fun i => ?_, fun i => ?_, fun i => ?_, fun i => ?_, fun i => ?_, fun i => ?_, fun i => ?_, fun i => ?_⟩⟩
    · rw [me_a (k := 126) r7 g1 rfl rfl, g3]
    · rw [me_a (k := 128) r7 g1 rfl rfl, g5]
      by_cases e : i = (mi_a h 147 (mi_f h 14003).toNat).toNat
      · rw [if_pos e, if_pos ⟨c, e⟩]
      · rw [if_neg e, if_neg (c := mi_a h 130 (mi_a h 146 (mi_f h 14003).toNat).toNat ≠ 0 ∧ i = (mi_a h 147 (mi_f h 14003).toNat).toNat) (fun z => e z.2)]
    · rw [me_a (k := 129) r7 g1 rfl rfl, me_a (k := 129) g6 hS rfl rfl, if_neg (fun z => c z.1)]
    · rw [r2, e130, e130]
      by_cases e : i = (mi_a h 146 (mi_f h 14003).toNat).toNat
      · rw [if_pos e, if_pos e, e]
      · rw [if_neg e, if_neg e]
    · rw [r3, e3, me_a (k := 147) g6 hS rfl rfl]
    · rw [r4, e3, me_a (k := 149) g6 hS rfl rfl]
    · rw [r5, e3, me_a (k := 150) g6 hS rfl rfl]
    · rw [r6, e3, me_a (k := 151) g6 hS rfl rfl]
  · intro b1 b2 c
    refine ⟨by omega, fun h1 g1 g2 g3 g4 g5 g6 g7 => ?_⟩
    have e3 : mi_f h1 14003 = mi_f h 14003 := me_f (c := 14003) g7 hS rfl rfl
    have e130 : ∀ i, mi_a h1 130 i = mi_a h 130 i := fun i => me_a (k := 130) g7 hS rfl rfl
    refine mt_bgB g1 op ⟨by omega, by omega⟩ ⟨by omega, by omega⟩ ?_
    intro b5
    refine ⟨by rw [e130]; omega, fun h2 r1 r2 r3 r4 r5 r6 r7 => ⟨rfl, r1, (g7.wide (fun c hc => ab_swr_ok (by decide) hc)).trans (r7.wide (fun c hc => ab_swr_ok (by decide) hc)), (me_f (c := 13964) r7 g1 rfl rfl).trans g2, fun i => ?_, fun i => ?_, fun i => ?_, fun i => ?_, fun i => ?_, fun i => ?_, fun i => ?_, fun i => ?_⟩⟩
    · rw [me_a (k := 126) r7 g1 rfl rfl, g3]
    · rw [me_a (k := 128) r7 g1 rfl rfl, g5, if_neg (c := mi_a h 130 (mi_a h 146 (mi_f h 14003).toNat).toNat ≠ 0 ∧ i = (mi_a h 147 (mi_f h 14003).toNat).toNat) (fun z => z.1 c)]
    · rw [me_a (k := 129) r7 g1 rfl rfl, g6]
      by_cases e : i = (mi_a h 146 (mi_f h 14003).toNat).toNat
      · rw [if_pos e, if_pos ⟨c, e⟩]
      · rw [if_neg e, if_neg (fun z => e z.2)]
    · rw [r2, e130, e130]
      by_cases e : i = (mi_a h 146 (mi_f h 14003).toNat).toNat
      · rw [if_pos e, if_pos e, e]
      · rw [if_neg e, if_neg e]
    · rw [r3, e3, me_a (k := 147) g7 hS rfl rfl]
    · rw [r4, e3, me_a (k := 149) g7 hS rfl rfl]
    · rw [r5, e3, me_a (k := 150) g7 hS rfl rfl]
    · rw [r6, e3, me_a (k := 151) g7 hS rfl rfl]
def pu_W : List (Nat × Nat) := [(15872, 15873), (16000, 16001), (16128, 16129), (19072, 19073), (19200, 19201), (19328, 19329)]
/-- put: k the level -/
def pu_R (zu : Int) (h h' : sm_H) : Prop :=
  (∀ i, mi_a h' 124 i = if mi_a h 151 (mi_f h 14003).toNat ≠ 0 ∧ i = (mi_a h 149 (mi_f h 14003).toNat).toNat then zu else mi_a h 124 i) ∧
  (∀ i, mi_a h' 125 i = if mi_a h 151 (mi_f h 14003).toNat = 0 ∧ 0 ≤ mi_a h 149 (mi_f h 14003).toNat ∧ i = (mi_a h 149 (mi_f h 14003).toNat).toNat then zu else mi_a h 125 i) ∧
  (∀ i, mi_a h' 126 i = if mi_a h 151 (mi_f h 14003).toNat = 0 ∧ mi_a h 149 (mi_f h 14003).toNat < 0 ∧ i = (mi_a h 147 (mi_f h 14003).toNat).toNat then zu else mi_a h 126 i) ∧
  (∀ i, mi_a h' 149 i = if mi_a h 151 (mi_f h 14003).toNat = 0 ∧ i = (mi_f h 14003).toNat then zu else mi_a h 149 i) ∧
  (∀ i, mi_a h' 150 i = if i = (mi_f h 14003).toNat then zu else mi_a h 150 i) ∧
  (∀ i, mi_a h' 151 i = if i = (mi_f h 14003).toNat then 0 else mi_a h 151 i)
theorem pu75 {h0 : sm_H} {zu : Int} {wr : List (Nat × Nat)} (hS0 : ab_Sh sx_sk h0) (hS : ab_Sh sx_sk h) (hF : ab_Fr wr h0 h) (hw : (ab_in wr 14003 || ab_in wr 19072 || ab_in wr 19200 || ab_in wr 19328) = false) (hw2 : ab_sub_wr wr pu_W = true) (u0 : 0 ≤ zu) (u1 : zu < 60) (hk : mi_f h0 14003 < 6) (hl : mi_a h0 151 (mi_f h0 14003).toNat ≠ 0 → 0 ≤ mi_a h0 149 (mi_f h0 14003).toNat ∧ mi_a h0 149 (mi_f h0 14003).toNat < 60) : me_E d 192 75 [some (.inr (.inr 109)), some (.inl zu)] [] h (fun w h' => w = none ∧ ab_Sh sx_sk h' ∧ ab_Fr pu_W h0 h' ∧ (∀ i, mi_a h' 124 i = mi_a h 124 i) ∧ (∀ i, mi_a h' 125 i = mi_a h 125 i) ∧ (∀ i, mi_a h' 126 i = mi_a h 126 i) ∧ (∀ i, mi_a h' 149 i = if mi_a h0 151 (mi_f h0 14003).toNat = 0 ∧ i = (mi_f h0 14003).toNat then zu else mi_a h0 149 i) ∧ (∀ i, mi_a h' 150 i = if i = (mi_f h0 14003).toNat then zu else mi_a h0 150 i) ∧ ∀ i, mi_a h' 151 i = if i = (mi_f h0 14003).toNat then 0 else mi_a h0 151 i) := by
  simp only [Bool.or_eq_false_iff] at hw
  have e3 : mi_f h 14003 = mi_f h0 14003 := me_f (c := 14003) hF hS0 rfl hw.1.1.1
  have e149 : ∀ i, mi_a h 149 i = mi_a h0 149 i := fun i => me_a (k := 149) hF hS0 rfl hw.1.1.2
  have e150 : ∀ i, mi_a h 150 i = mi_a h0 150 i := fun i => me_a (k := 150) hF hS0 rfl hw.1.2
  have e151 : ∀ i, mi_a h 151 i = mi_a h0 151 i := fun i => me_a (k := 151) hF hS0 rfl hw.2
  refine mt_puB hS ⟨by omega, by omega⟩ ?_ ?_
  · intro b c
    rw [e3, e151] at c
    refine ⟨by omega, fun h1 g1 g2 g3 g4 g5 => ⟨rfl, g1, (hF.wide (fun c hc => ab_swr_ok hw2 hc)).trans (g5.wide (fun c hc => ab_swr_ok (by decide) hc)), fun i => me_a (k := 124) g5 hS rfl rfl, fun i => me_a (k := 125) g5 hS rfl rfl, fun i => me_a (k := 126) g5 hS rfl rfl, fun i => ?_, fun i => ?_, fun i => ?_⟩⟩
    · rw [g2, e3, e149]
      by_cases e : i = (mi_f h0 14003).toNat
      · rw [if_pos e, if_pos ⟨c, e⟩]
      · rw [if_neg e, if_neg (fun z => e z.2)]
    · rw [g3, e3, e150]
    · rw [g4, e3, e151]
  · intro b c
    rw [e3, e151] at c
    have hl := hl c
    refine ⟨by rw [e3, e149]; omega, fun h1 g1 g2 g3 g4 g5 => ⟨rfl, g1, (hF.wide (fun c hc => ab_swr_ok hw2 hc)).trans (g5.wide (fun c hc => ab_swr_ok (by decide) hc)), fun i => me_a (k := 124) g5 hS rfl rfl, fun i => me_a (k := 125) g5 hS rfl rfl, fun i => me_a (k := 126) g5 hS rfl rfl, fun i => ?_, fun i => ?_, fun i => ?_⟩⟩
    · rw [g2, e3, e149, e149, if_neg (c := mi_a h0 151 (mi_f h0 14003).toNat = 0 ∧ i = (mi_f h0 14003).toNat) (fun z => c z.1)]
      by_cases e : i = (mi_f h0 14003).toNat
      · rw [if_pos e, e]
      · rw [if_neg e]
    · rw [g3, e3, e150]
    · rw [g4, e3, e151]
theorem me_put {zu : Int} (hS : ab_Sh sx_sk h) (u0 : 0 ≤ zu) (u1 : zu < 60) (hk : mi_f h 14003 < 6) (hl : mi_a h 151 (mi_f h 14003).toNat ≠ 0 → 0 ≤ mi_a h 149 (mi_f h 14003).toNat) (hl2 : mi_a h 149 (mi_f h 14003).toNat < 60) (ha : 0 ≤ mi_a h 147 (mi_f h 14003).toNat ∧ mi_a h 147 (mi_f h 14003).toNat < 80) : me_E d 192 0 [some (.inr (.inr 109)), some (.inl zu)] [] h (fun w h' => w = none ∧ ab_Sh sx_sk h' ∧ ab_Fr pu_W h h' ∧ pu_R zu h h') := by
  have b3 := me_fb (c := 14003) hS rfl
  have hl' : mi_a h 151 (mi_f h 14003).toNat ≠ 0 → 0 ≤ mi_a h 149 (mi_f h 14003).toNat ∧ mi_a h 149 (mi_f h 14003).toNat < 60 := fun z => ⟨hl z, hl2⟩
  refine mt_puA hS ⟨by omega, by omega⟩ ?_ ?_ ?_
  · intro b c1 c2
    refine ⟨by omega, fun h1 g1 g2 g3 => (pu75 (h0 := h) hS g1 g3 rfl rfl u0 u1 hk hl').imp (fun w h' hq => ?_)⟩
    obtain ⟨q1, q2, q3, q4, q5, q6, q7, q8, q9⟩ := hq
    refine ⟨q1, q2, q3, fun i => ?_, fun i => ?_, fun i => ?_, q7, q8, q9⟩
    · rw [q4, me_a (k := 124) g3 hS rfl rfl, if_neg (fun z => z.1 c1)]
    · rw [q5, g2]
      by_cases e : i = (mi_a h 149 (mi_f h 14003).toNat).toNat
      · rw [if_pos e, if_pos ⟨c1, c2, e⟩]
      · rw [if_neg e, if_neg (fun z => e z.2.2)]
    · rw [q6, me_a (k := 126) g3 hS rfl rfl, if_neg (fun z => by have := z.2.1; omega)]
  · intro b c1 c2
    refine ⟨by omega, fun h1 g1 g2 g3 => (pu75 (h0 := h) hS g1 g3 rfl rfl u0 u1 hk hl').imp (fun w h' hq => ?_)⟩
    obtain ⟨q1, q2, q3, q4, q5, q6, q7, q8, q9⟩ := hq
    refine ⟨q1, q2, q3, fun i => ?_, fun i => ?_, fun i => ?_, q7, q8, q9⟩
    · rw [q4, me_a (k := 124) g3 hS rfl rfl, if_neg (fun z => z.1 c1)]
    · rw [q5, me_a (k := 125) g3 hS rfl rfl, if_neg (fun z => by have := z.2.1; omega)]
    · rw [q6, g2]
      by_cases e : i = (mi_a h 147 (mi_f h 14003).toNat).toNat
      · rw [if_pos e, if_pos ⟨c1, c2, e⟩]
      · rw [if_neg e, if_neg (fun z => e z.2.2)]
  · intro b c1
    have := hl c1
    refine ⟨by omega, fun h1 g1 g2 g3 => (pu75 (h0 := h) hS g1 g3 rfl rfl u0 u1 hk hl').imp (fun w h' hq => ?_)⟩
    obtain ⟨q1, q2, q3, q4, q5, q6, q7, q8, q9⟩ := hq
    refine ⟨q1, q2, q3, fun i => ?_, fun i => ?_, fun i => ?_, q7, q8, q9⟩
    · rw [q4, g2]
      by_cases e : i = (mi_a h 149 (mi_f h 14003).toNat).toNat
      · rw [if_pos e, if_pos ⟨c1, e⟩]
      · rw [if_neg e, if_neg (fun z => e z.2)]
    · rw [q5, me_a (k := 125) g3 hS rfl rfl, if_neg (fun z => c1 z.1)]
    · rw [q6, me_a (k := 126) g3 hS rfl rfl, if_neg (fun z => c1 z.1)]
end RDS
