/-! letters2, shown -/
section SHO
variable {h : sm_H} {d : Nat}
def wr_pr : List (Nat × Nat) := [(14037, 14038), (14044, 14047), (21760, 21761)]
theorem lg_pos {x : Int64} (h : 0 < (lg_cmp x (Int64.ofNat 0)).toInt) : 0 < x.toInt := by
  unfold lg_cmp at h
  split at h
  · next hc =>
    rw [gt_iff_lt, Int64.lt_iff_toInt_lt] at hc
    exact hc
  · split at h
    · exfalso; revert h; decide
    · exfalso; revert h; decide
theorem lg_shr5 (x : Int64) : (x >>> ((Int32.ofInt ((5 : Int))).toInt64 &&& 63)).toInt = x.toInt / 32 := by
  show (x >>> ((Int32.ofInt ((5 : Int))).toInt64 &&& 63)).toBitVec.toInt = _
  rw [Int64.toBitVec_shiftRight]
  have e : ((Int32.ofInt ((5 : Int))).toInt64 &&& 63).toBitVec.smod 64 = 5#64 := by decide
  rw [e]
  show (x.toBitVec.sshiftRight 5).toInt = _
  rw [BitVec.toInt_sshiftRight, Int.shiftRight_eq_div_pow]
  rfl
theorem me_wr {zc : Int} (hS : ab_Sh sx_sk h) (ok : mi_in zc) : me_E d 220 0 [some (.inr (.inr 109)), some (.inl zc)] [] h (fun w h' => w = none ∧ ab_Sh sx_sk h' ∧ ab_Fr wr_pr h h') := by
  have := me_abs (M := (2, 0, sb_220)) (as := [.inr (.inr 109), .inl zc]) xo_v_write rfl hS ⟨rfl, me_nv1 ok ok.1 ok.2, trivial⟩ (fun e he => by cases he) (by decide)
  exact (me_E.deep (d' := d) this (Nat.zero_le _)).imp (fun w h' hq => ⟨by obtain ⟨-, -, p, -, hp, -⟩ := hq; unfold mi_res at hp; rw [if_pos rfl] at hp; exact hp, hq.1, hq.2.1.wide (fun c hc => ab_swr_ok (by decide) hc)⟩)
theorem me_be {zc : Int} (hS : ab_Sh sx_sk h) (ok : mi_in zc) : me_E (d + 2) 219 0 [some (.inr (.inr 109)), some (.inl zc), none] [] h (fun w h' => w = none ∧ ab_Sh sx_sk h' ∧ ab_Fr wr_pr h h') := by
  have := me_abs (M := (3, 0, sb_219)) (as := [.inr (.inr 109), .inl zc]) xo_v_between rfl hS ⟨rfl, me_nv1 ok ok.1 ok.2, trivial⟩ (fun e he => by cases he) (by decide)
  exact (me_E.deep (d' := d + 2) this (Nat.le_add_left _ _)).imp (fun w h' hq => ⟨by obtain ⟨-, -, p, -, hp, -⟩ := hq; unfold mi_res at hp; rw [if_pos rfl] at hp; exact hp, hq.1, hq.2.1.wide (fun c hc => ab_swr_ok (by decide) hc)⟩)
theorem me_l2C {zw : Int64} : ∀ (N : Nat) (zv : Int64) (h : sm_H), zv.toInt < N → ab_Sh sx_sk h → me_E (d + 1) 218 15 [some (.inr (.inr 109)), some (.inr (.inl zw)), none, some (.inr (.inl zv)), none] [] h (fun w h' => w = none ∧ ab_Sh sx_sk h' ∧ ab_Fr wr_pr h h') := by
  intro N
  induction N with
  | zero =>
    intro zv h hv hS
    refine mt_l2C hS ?_ ?_
    · intro c h1 g1 g2
      exact ⟨rfl, g1, g2.wide (fun c hc => by cases hc)⟩
    · intro c
      have := lg_pos c
      omega
  | succ N ih =>
    intro zv h hv hS
    refine mt_l2C hS ?_ ?_
    · intro c h1 g1 g2
      exact ⟨rfl, g1, g2.wide (fun c hc => by cases hc)⟩
    · intro c h1 g1 g2
      have hp := lg_pos c
      refine ⟨_, me_wr g1 (mi_inT _), ?_⟩
      intro w h2 hw hq
      obtain ⟨rfl, q1, q2⟩ := hq
      refine mt_l2D q1 ?_
      intro h3 r1 r2
      refine (ih _ h3 ?_ r1).imp (fun w h' hq => ⟨hq.1, hq.2.1, (((g2.wide (fun c hc => by cases hc)).trans q2).trans (r2.wide (fun c hc => by cases hc))).trans hq.2.2⟩)
      rw [lg_shr5]
      omega
theorem me_letters2 {zw : Int64} (hS : ab_Sh sx_sk h) : me_E (d + 3) 218 0 [some (.inr (.inr 109)), some (.inr (.inl zw)), none, none, none] [] h (fun w h' => w = none ∧ ab_Sh sx_sk h' ∧ ab_Fr wr_pr h h') := by
  refine mt_l2A (d := d + 2) hS ?_
  intro h1 g1 g2
  refine ⟨_, me_be g1 (mi_inT _), ?_⟩
  intro w h2 hw hq
  obtain ⟨rfl, q1, q2⟩ := hq
  refine mt_l2B q1 ?_
  intro h3 r1 r2
  exact (me_l2C (zw.toInt.toNat + 1) zw h3 (by omega) r1).imp (fun w h' hq => ⟨hq.1, hq.2.1, (((g2.wide (fun c hc => by cases hc)).trans q2).trans (r2.wide (fun c hc => by cases hc))).trans hq.2.2⟩)
theorem sh_div (z : Int) (h0 : 0 ≤ z) (h1 : z ≤ 2147483647) : (Int32.ofInt z / Int32.ofInt ((10 : Int))).toInt = z / 10 := by
  have e : (Int32.ofInt ((10 : Int))).toInt = 10 := rfl
  rw [Int32.toInt_div, mi_ti ⟨by omega, h1⟩, e, Int.tdiv_eq_ediv_of_nonneg h0]
  exact Int.bmod_eq_of_le (by omega) (by omega)
theorem me_shE {zu zn zd : Int} {zv : Int64} (ou : mi_in zu) (on : mi_in zn) (od : mi_in zd) : ∀ (N : Nat) (ze : Int) (h : sm_H), ze < N → mi_in ze → ab_Sh sx_sk h → me_E (d + 1) 217 176 [some (.inr (.inr 109)), some (.inl zu), some (.inr (.inl zv)), none, some (.inl zn), some (.inl zd), some (.inl ze)] [] h (fun w h' => w = none ∧ ab_Sh sx_sk h' ∧ ab_Fr wr_pr h h') := by
  intro N
  induction N with
  | zero =>
    intro ze h hv oe hS
    refine mt_shE hS ou on od oe ?_ ?_
    · intro c h1 g1 g2
      exact ⟨rfl, g1, g2.wide (fun c hc => by cases hc)⟩
    · intro c
      exfalso; omega
  | succ N ih =>
    intro ze h hv oe hS
    refine mt_shE hS ou on od oe ?_ ?_
    · intro c h1 g1 g2
      exact ⟨rfl, g1, g2.wide (fun c hc => by cases hc)⟩
    · intro c
      refine ⟨by omega, fun h1 g1 g2 => ⟨_, me_wr g1 (mi_inT _), ?_⟩⟩
      intro w h2 hw hq
      obtain ⟨rfl, q1, q2⟩ := hq
      refine mt_shF q1 ou on od oe ?_
      intro h3 r1 r2
      rw [sh_div ze (by omega) oe.2]
      exact (ih _ h3 (by omega) ⟨by have := oe.2; omega, by have := oe.2; omega⟩ r1).imp (fun w h' hq => ⟨hq.1, hq.2.1, (((g2.wide (fun c hc => by cases hc)).trans q2).trans (r2.wide (fun c hc => by cases hc))).trans hq.2.2⟩)
theorem me_sh160 {zu zn zd : Int} {zv : Int64} (ou : mi_in zu) (on : mi_in zn) (hS : ab_Sh sx_sk h) (h0 : 0 < zd) (h1 : zd ≤ 1000) : me_E (d + 3) 217 160 [some (.inr (.inr 109)), some (.inl zu), some (.inr (.inl zv)), none, some (.inl zn), some (.inl zd), none] [] h (fun w h' => w = none ∧ ab_Sh sx_sk h' ∧ ab_Fr wr_pr h h') := by
  have od : mi_in zd := ⟨by omega, by omega⟩
  refine mt_shC (d := d + 2) hS ou on od ?_
  refine ⟨by omega, fun h1 g1 g2 => ⟨_, me_be g1 (mi_inT _), ?_⟩⟩
  intro w h2 hw hq
  obtain ⟨rfl, q1, q2⟩ := hq
  refine mt_shD q1 ou on od ?_
  intro h3 r1 r2
  exact (me_shE ou on od 2000 zd h3 (by omega) od r1).imp (fun w h' hq => ⟨hq.1, hq.2.1, (((g2.wide (fun c hc => by cases hc)).trans q2).trans (r2.wide (fun c hc => by cases hc))).trans hq.2.2⟩)
theorem me_sh119 {zu zn : Int} {zv : Int64} (ou : mi_in zu) (on : mi_in zn) (hS : ab_Sh sx_sk h) : me_E (d + 3) 217 119 [some (.inr (.inr 109)), some (.inl zu), some (.inr (.inl zv)), none, some (.inl zn), none, none] [] h (fun w h' => w = none ∧ ab_Sh sx_sk h' ∧ ab_Fr wr_pr h h') := by
  have go : ∀ (zd : Int), 0 < zd → zd ≤ 1000 → ∀ h1, ab_Sh sx_sk h1 → ab_Fr [] h h1 → me_E (d + 3) 217 160 [some (.inr (.inr 109)), some (.inl zu), some (.inr (.inl zv)), none, some (.inl zn), some (.inl zd), none] [] h1 (fun w h' => w = none ∧ ab_Sh sx_sk h' ∧ ab_Fr wr_pr h h') := fun zd z0 z1 h1 g1 g2 => (me_sh160 ou on g1 z0 z1).imp (fun w h' hq => ⟨hq.1, hq.2.1, (g2.wide (fun c hc => by cases hc)).trans hq.2.2⟩)
  refine mt_shB (d := d + 2) hS ou on ?_ ?_ ?_ ?_
  · intro c1 c2 c3
    exact go 1 (by decide) (by decide)
  · intro c1 c2 c3
    exact go 10 (by decide) (by decide)
  · intro c1 c2
    exact go 100 (by decide) (by decide)
  · intro c1
    exact go 1000 (by decide) (by decide)
def wr_sh : List (Nat × Nat) := [(14033, 14034), (14037, 14038), (14044, 14047), (21760, 21761)]
theorem me_shown {zu : Int} (hS : ab_Sh sx_sk h) (hu0 : 0 ≤ zu) (hu1 : zu < 60) (hs : mi_a h 119 zu.toNat = 1 ∨ mi_a h 119 zu.toNat = 2 ∨ mi_a h 119 zu.toNat = 8) (hl : mi_a h 119 zu.toNat = 8 → 0 ≤ mi_a h 120 zu.toNat ∧ mi_a h 120 zu.toNat < 20) (hn : mi_a h 119 zu.toNat ≠ 8 → 0 ≤ mi_f h 14033 ∧ mi_f h 14033 < 100) : me_E (d + 4) 217 0 [some (.inr (.inr 109)), some (.inl zu), none, none, none, none, none] [] h (fun w h' => w = none ∧ ab_Sh sx_sk h' ∧ ab_Fr wr_sh h h' ∧ mi_f h' 14033 = if mi_a h 119 zu.toNat = 8 then mi_f h 14033 else mi_f h 14033 + 1) := by
  have ou : mi_in zu := ⟨by omega, by omega⟩
  have hnx : mi_a h 119 zu.toNat ≠ 8 → (Int32.ofInt (mi_f h 14033) + Int32.ofInt ((1 : Int))).toInt = mi_f h 14033 + 1 := fun e => by
    have := hn e
    rw [← Int32.ofInt_add, mi_ti ⟨by omega, by omega⟩]
  have fin : ∀ {w : Option mi_V} {h1 h2 : sm_H}, mi_a h 119 zu.toNat ≠ 8 → ab_Sh sx_sk h1 → mi_f h1 14033 = (Int32.ofInt (mi_f h 14033) + Int32.ofInt ((1 : Int))).toInt → ab_Fr [(14033, 14034)] h h1 → (w = none ∧ ab_Sh sx_sk h2 ∧ ab_Fr wr_pr h1 h2) → (w = none ∧ ab_Sh sx_sk h2 ∧ ab_Fr wr_sh h h2 ∧ mi_f h2 14033 = if mi_a h 119 zu.toNat = 8 then mi_f h 14033 else mi_f h 14033 + 1) := fun e g1 g2 g3 hq => by
    refine ⟨hq.1, hq.2.1, (g3.wide (fun c hc => ab_swr_ok (by decide) hc)).trans (hq.2.2.wide (fun c hc => ab_swr_ok (by decide) hc)), ?_⟩
    rw [if_neg e, me_f (c := 14033) hq.2.2 g1 rfl rfl, g2, hnx e]
  have lit : ∀ {w : Option mi_V} {h2 : sm_H}, mi_a h 119 zu.toNat = 8 → (w = none ∧ ab_Sh sx_sk h2 ∧ ab_Fr wr_pr h h2) → (w = none ∧ ab_Sh sx_sk h2 ∧ ab_Fr wr_sh h h2 ∧ mi_f h2 14033 = if mi_a h 119 zu.toNat = 8 then mi_f h 14033 else mi_f h 14033 + 1) := fun e hq => by
    refine ⟨hq.1, hq.2.1, hq.2.2.wide (fun c hc => ab_swr_ok (by decide) hc), ?_⟩
    rw [if_pos e, me_f (c := 14033) hq.2.2 hS rfl rfl]
  refine mt_shA (d := d + 3) hS ou ?_ ?_ ?_ ?_
  · intro b c1 c2
    have hn := hn c1
    refine ⟨by omega, fun h1 g1 g2 g3 => ?_⟩
    exact (me_sh119 (d := d + 1) ou (mi_inT _) g1).imp (fun w h' hq => fin c1 g1 g2 g3 hq)
  · intro b c1 c2
    have hn := hn c1
    refine ⟨by omega, fun h1 g1 g2 g3 => ⟨_, me_letters2 (d := d) g1, ?_⟩⟩
    intro w h2 hw hq
    obtain ⟨rfl, q1, q2⟩ := hq
    refine mt_shJ (d := d + 3) q1 ou ?_
    intro h3 r1 r2
    exact fin c1 g1 g2 g3 ⟨rfl, r1, q2.trans (r2.wide (fun c hc => by cases hc))⟩
  · intro c1 c2
    have hl := hl c1
    refine ⟨by omega, fun h1 g1 g2 => ⟨_, me_be (d := d + 1) g1 (mi_inT _), ?_⟩⟩
    intro w h2 hw hq
    obtain ⟨rfl, q1, q2⟩ := hq
    refine mt_shG (d := d + 3) q1 ou (mi_inT _) ?_
    refine ⟨by omega, fun h3 r1 r2 => ⟨_, me_wr r1 (mi_inT _), ?_⟩⟩
    intro w h4 hw4 hq4
    obtain ⟨rfl, t1, t2⟩ := hq4
    refine mt_shH (d := d + 3) t1 ou (mi_inT _) ?_
    intro h5 u1 u2
    exact lit c1 ⟨rfl, u1, ((((g2.wide (fun c hc => by cases hc)).trans q2).trans (r2.wide (fun c hc => by cases hc))).trans t2).trans (u2.wide (fun c hc => by cases hc))⟩
  · intro c1 c2
    have hl := hl c1
    refine ⟨by omega, fun h1 g1 g2 => ⟨_, me_letters2 (d := d) g1, ?_⟩⟩
    intro w h2 hw hq
    obtain ⟨rfl, q1, q2⟩ := hq
    refine mt_shI (d := d + 3) q1 ou (mi_inT _) ?_
    intro h3 r1 r2
    exact lit c1 ⟨rfl, r1, ((g2.wide (fun c hc => by cases hc)).trans q2).trans (r2.wide (fun c hc => by cases hc))⟩
end SHO
