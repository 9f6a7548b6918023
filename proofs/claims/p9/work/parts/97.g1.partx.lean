/-! the reference's part, exactly -/
/-- the literal of code c has the number z; gl: the rows behind it -/
def rl_R (g : wk_g) (c z : Int) (gl : wk_g) : Prop :=
  (0 ≤ z ∧ z < g 0 4 ∧ g 117 z.toNat = c ∧ (∀ j : Nat, (j : Int) < z → g 117 j ≠ c) ∧ gl = g) ∨
  ((∀ j : Nat, (j : Int) < g 0 4 → g 117 j ≠ c) ∧ g 0 4 < 20 ∧ z = g 0 4 ∧ gl = rf_lit g c)
/-- none is left for it -/
def rl_N (g : wk_g) (c : Int) : Prop := (∀ j : Nat, (j : Int) < g 0 4 → g 117 j ≠ c) ∧ g 0 4 = 20
theorem rl_u {g : wk_g} {c z z' : Int} {gl gl' : wk_g} (h : rl_R g c z gl) (h' : rl_R g c z' gl') : z = z' ∧ gl = gl' := by
  rcases h with ⟨a1, a2, a3, a4, a5⟩ | ⟨a1, a2, a3, a4⟩ <;> rcases h' with ⟨b1, b2, b3, b4, b5⟩ | ⟨b1, b2, b3, b4⟩
  · have : z = z' := by
      rcases Int.lt_trichotomy z z' with x | x | x
      · exact absurd a3 (b4 z.toNat (by omega))
      · exact x
      · exact absurd b3 (a4 z'.toNat (by omega))
    exact ⟨this, a5.trans b5.symm⟩
  · exact absurd a3 (b1 z.toNat (by omega))
  · exact absurd b3 (a1 z'.toNat (by omega))
  · exact ⟨a3.trans b3.symm, a4.trans b4.symm⟩
theorem rl_n {g : wk_g} {c z : Int} {gl : wk_g} (h : rl_R g c z gl) (hn : rl_N g c) : False := by
  rcases h with ⟨a1, a2, a3, a4, a5⟩ | ⟨a1, a2, a3, a4⟩
  · exact hn.1 z.toNat (by omega) a3
  · have := hn.2
    omega
/-- sort and what of the unit that a token makes -/
def pu_s (t v : Int) : Int := if t = 1 then so_r v else if t = 2 then 9 else if t = 40 then 10 else 8
def pu_w (t v : Int) : Int := if t = 2 then v else 0
/-- part, purely: from g to g' -/
def rp_R (g : wk_g) (t v p : Int) (g' : wk_g) : Prop :=
  (t = 40 ∧ g' = rf_beg (rf_o2 (rf_new (rf_o1 (rf_unit g 10 0 p) (g 0 0))) (g 0 0) (g 0 2)) 0) ∨
  ((t = 3 ∨ t = 4) ∧ ∃ z gl, rl_R g (lc_t t v) z gl ∧ g' = rf_put (rf_unit gl 8 z p) (g 0 0)) ∨
  ((t = 1 ∨ t = 2) ∧ g' = rf_put (rf_unit g (pu_s t v) (pu_w t v) p) (g 0 0))
/-- part is at fault (3) -/
def rp_N (g : wk_g) (t v : Int) : Prop := g 0 0 = 60 ∨ (t = 40 ∧ g 0 5 = 4) ∨ ((t = 3 ∨ t = 4) ∧ rl_N g (lc_t t v))
theorem rp_u {g g1 g2 : wk_g} {t v p : Int} (h1 : rp_R g t v p g1) (h2 : rp_R g t v p g2) : g1 = g2 := by
  rcases h1 with ⟨a1, a2⟩ | ⟨a1, z, gl, a2, a3⟩ | ⟨a1, a2⟩ <;> rcases h2 with ⟨b1, b2⟩ | ⟨b1, y, gm, b2, b3⟩ | ⟨b1, b2⟩
  · exact a2.trans b2.symm
  · omega
  · omega
  · omega
  · obtain ⟨e1, e2⟩ := rl_u a2 b2
    subst e1
    subst e2
    exact a3.trans b3.symm
  · omega
  · omega
  · omega
  · exact a2.trans b2.symm
def px_Q (g : wk_g) (h0 : sm_H) (w : Option mi_V) (h' : sm_H) : Prop := w = none ∧ ab_Sh sx_sk h' ∧
  ((rp_N g (mi_f h0 14001) (mx_l h0 14004).toInt ∧ mi_f h' 13960 = 3 + 16 * mi_f h0 14002) ∨
   (¬ rp_N g (mi_f h0 14001) (mx_l h0 14004).toInt ∧ mi_f h' 13960 = 0 ∧ lc_ok h' ∧ ∃ g', rp_R g (mi_f h0 14001) (mx_l h0 14004).toInt (mi_f h0 14002) g' ∧ RQ g' h'))
section PTX
variable {d : Nat} {h h0 : sm_H} {zf zp : Int} {g : wk_g} {Y : wk_Y} {z : rd_Z} {q s : Int}
theorem me_blamex (hS : ab_Sh sx_sk h) (f0 : 1 ≤ zf) (f1 : zf ≤ 9) (p0 : 0 ≤ zp) (p1 : zp ≤ 1000) (h0 : mi_f h 13960 = 0) : me_E d 184 0 [some (.inr (.inr 109)), some (.inl zf), some (.inl zp)] [] h (fun w h' => w = none ∧ ab_Sh sx_sk h' ∧ ab_Fr [(13960, 13961)] h h' ∧ mi_f h' 13960 = zf + 16 * zp) := by
  refine mt_bl hS ⟨by omega, by omega⟩ ⟨by omega, by omega⟩ ?_ ?_
  · intro b c; exact absurd h0 c
  · intro b c
    refine ⟨by omega, fun h1 g1 g2 g3 => ⟨rfl, g1, g3, g2⟩⟩
/-- at 196: the unit is made -/
def px_S (g : wk_g) (h0 h : sm_H) (s : Int) : Prop := pt_S h0 h s ∧
  ((mi_f h 13960 = 0 ∧ lc_ok h ∧ ∃ w gl, RQ (rf_unit gl s w (mi_f h0 14002)) h ∧ gl 0 0 = g 0 0 ∧ gl 0 2 = g 0 2 ∧ ((s = 8 ∧ rl_R g (lc_t (mi_f h0 14001) (mx_l h0 14004).toInt) w gl) ∨ (s ≠ 8 ∧ gl = g ∧ w = pu_w (mi_f h0 14001) (mx_l h0 14004).toInt))) ∨
   (s = 8 ∧ rl_N g (lc_t (mi_f h0 14001) (mx_l h0 14004).toInt) ∧ mi_f h 13960 = 3 + 16 * mi_f h0 14002))
/-- what is asked of the token: one that a part begins with -/
def px_T (h0 : sm_H) : Prop := ip_t (mi_f h0 14001) (mx_l h0 14004).toInt ∧ (mi_f h0 14001 = 3 → 1 ≤ (mx_l h0 14004).toInt ∧ (mx_l h0 14004).toInt ≤ 1073741823) ∧ (mi_f h0 14001 = 4 → 1 ≤ (mx_l h0 14004).toInt ∧ (mx_l h0 14004).toInt ≤ 255)
theorem px_put (hP : pt_P h0 Y z q) (hq : RQ g h0) (hT : px_T h0) (hU : mi_f h0 13963 < 60) (hs : px_S g h0 h s) (ht : s = pu_s (mi_f h0 14001) (mx_l h0 14004).toInt) (s10 : s ≠ 10) : me_E (d + 9) 190 196 [some (.inr (.inr 109)), some (.inl (mi_f h0 13963))] [] h (px_Q g h0) := by
  obtain ⟨hI, q0, hS0, hR, hf0⟩ := hP
  have bU := me_fb (c := 13963) hS0 rfl
  obtain ⟨⟨s1, s2, s3, s4, s5, s6, s7, s8, s9, s11, s12⟩, hx⟩ := hs
  have ok : mi_in (mi_f h0 13963) := ⟨by omega, by omega⟩
  obtain ⟨⟨k0, k1⟩, ⟨f0, f1, f2⟩, c1, ⟨a0, a1⟩, l1, l2, l3, hb⟩ := rs_lev hI hS0
  have e3 : mi_f h 14003 = mi_f h0 14003 := me_f (c := 14003) s2 hS0 rfl rfl
  have sm := me_as [126, 128, 129, 130, 146, 147, 148, 149, 150, 151] s2 hS0 (by decide)
  have e147 := sm 147 (by decide)
  have e149 := sm 149 (by decide)
  have e151 := sm 151 (by decide)
  have eU : mi_a h 119 (mi_f h0 13963).toNat = s := by rw [s4, if_pos rfl]
  have gU : g 0 0 = mi_f h0 13963 := hq.1.1
  have gO : g 0 5 = mi_f h0 14003 := hq.1.2.2.2.2.2
  refine mt_ptG s1 ok ?_ ?_
  · intro b c
    rw [eU] at c
    exact absurd c s10
  intro c
  refine ⟨⟨by omega, by omega⟩, fun h1 g1 g2 => ?_⟩
  have e := me_nil g2
  subst e
  refine ⟨_, me_put (d := d + 8) s1 (by omega) hU (by omega) (by rw [e3, e149, e151]; exact l1) (by rw [e3, e149]; exact l2) (by rw [e3, e147]; exact ⟨a0, a1⟩), fun w h2 ow hq2 => ?_⟩
  obtain ⟨rfl, p1, p2, p3⟩ := hq2
  refine mt_ptH p1 ok (fun h3 g3 g4 => ?_)
  have e := me_nil g4
  subst e
  have ef : mi_f h3 13960 = mi_f h1 13960 := me_f (c := 13960) p2 s1 rfl rfl
  have n40 : mi_f h0 14001 ≠ 40 := fun c => by
    apply s10
    rw [ht, c]
    rfl
  refine ⟨rfl, p1, ?_⟩
  rcases hx with ⟨x1, x2, w, gl, x3, x4, x5, x6⟩ | ⟨x1, x2, x3⟩
  · right
    have lk : lc_ok h3 := fun k hk => by
      rw [me_f (c := 13962) p2 s1 rfl rfl] at hk
      rw [me_a (k := 117) p2 s1 rfl rfl, me_b (k := 118) p2 s1 rfl rfl]
      exact x2 k hk
    have put := RQ_put x3 s1 p2 p3
    rcases x6 with ⟨y1, y2⟩ | ⟨y1, y2, y3⟩
    · have t34 : mi_f h0 14001 = 3 ∨ mi_f h0 14001 = 4 := by
        have ip := hT.1
        unfold ip_t at ip
        rw [y1] at ht
        unfold pu_s at ht
        by_cases c1 : mi_f h0 14001 = 1
        · rw [if_pos c1] at ht
          exfalso
          unfold so_r at ht
          revert ht
          split <;> (try decide)
          split <;> (try decide)
          split <;> (try decide)
          split <;> (try decide)
          split <;> (try decide)
          split <;> (try decide)
          split <;> (try decide)
        · rw [if_neg c1] at ht
          by_cases c2 : mi_f h0 14001 = 2
          · rw [if_pos c2] at ht
            exact absurd ht (by decide)
          · omega
      refine ⟨fun hn => ?_, by omega, lk, _, Or.inr (Or.inl ⟨t34, w, gl, y2, rfl⟩), ?_⟩
      · rcases hn with x | x | x
        · omega
        · exact n40 x.1
        · exact rl_n y2 x.2
      · rw [y1] at put
        rw [gU]
        exact put
    · have t12 : mi_f h0 14001 = 1 ∨ mi_f h0 14001 = 2 := by
        have ip := hT.1
        unfold ip_t at ip
        rw [ht] at y1
        unfold pu_s at y1
        by_cases c1 : mi_f h0 14001 = 1
        · exact Or.inl c1
        · rw [if_neg c1] at y1
          by_cases c2 : mi_f h0 14001 = 2
          · exact Or.inr c2
          · rw [if_neg c2, if_neg n40] at y1
            exact absurd rfl y1
      refine ⟨fun hn => ?_, by omega, lk, _, Or.inr (Or.inr ⟨t12, rfl⟩), ?_⟩
      · rcases hn with x | x | x
        · omega
        · exact n40 x.1
        · omega
      · rw [gU, ← ht, ← y3, ← y2]
        exact put
  · left
    refine ⟨Or.inr (Or.inr ⟨?_, x2⟩), by omega⟩
    have ip := hT.1
    unfold ip_t at ip
    rw [x1] at ht
    unfold pu_s at ht
    by_cases c1 : mi_f h0 14001 = 1
    · rw [if_pos c1] at ht
      exfalso
      unfold so_r at ht
      revert ht
      split <;> (try decide)
      split <;> (try decide)
      split <;> (try decide)
      split <;> (try decide)
      split <;> (try decide)
      split <;> (try decide)
      split <;> (try decide)
    · rw [if_neg c1] at ht
      by_cases c2 : mi_f h0 14001 = 2
      · rw [if_pos c2] at ht
        exact absurd ht (by decide)
      · omega
end PTX
