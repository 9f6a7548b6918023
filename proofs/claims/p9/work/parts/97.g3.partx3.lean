/-! the reference's part, exactly: joined; plus -/
section PTZ
variable {d : Nat} {h h0 : sm_H} {g : wk_g} {Y : wk_Y} {z : rd_Z} {q s : Int}
theorem px101 (hP : pt_P h0 Y z q) (hq : RQ g h0) (hT : px_T h0) (hl : lc_ok h0) (hU : mi_f h0 13963 < 60) (hk : mi_f h0 14001 = 40 → mi_f h0 14003 ≠ 4) (ht : s = pu_s (mi_f h0 14001) (mx_l h0 14004).toInt) (ht2 : s = 9 → mi_f h0 14001 = 2) (hv2 : mi_f h0 14001 = 2 → (mx_l h0 14004).toInt32.toInt = (mx_l h0 14004).toInt) (s1 : ab_Sh sx_sk h) (s2 : ab_Fr [(13963, 13964), (15232, 15233)] h0 h) (s3 : mi_f h 13963 = mi_f h0 13963 + 1) (s4 : ∀ i, mi_a h 119 i = if i = (mi_f h0 13963).toNat then s else mi_a h0 119 i) : me_E (d + 9) 190 101 [some (.inr (.inr 109)), some (.inl (mi_f h0 13963))] [] h (px_Q g h0) := by
  have hS0 := hP.2.2.1
  have bU := me_fb (c := 13963) hS0 rfl
  have ok : mi_in (mi_f h0 13963) := ⟨by omega, by omega⟩
  have e1 : mi_f h 14001 = mi_f h0 14001 := me_f (c := 14001) s2 hS0 rfl rfl
  have e4 : mx_l h 14004 = mx_l h0 14004 := me_l (c := 14004) s2 hS0 rfl rfl
  have e2 : mi_f h 14002 = mi_f h0 14002 := me_f (c := 14002) s2 hS0 rfl rfl
  have go : ∀ {h3 : sm_H} {v : Int}, v = pu_w (mi_f h0 14001) (mx_l h0 14004).toInt → ab_Sh sx_sk h3 → (∀ i, mi_a h3 120 i = if i = (mi_f h0 13963).toNat then v else mi_a h 120 i) → (∀ i, mi_a h3 121 i = if i = (mi_f h0 13963).toNat then mi_f h 14002 else mi_a h 121 i) → (∀ i, mi_a h3 122 i = if i = (mi_f h0 13963).toNat then 0 else mi_a h 122 i) → (∀ i, mi_a h3 124 i = if i = (mi_f h0 13963).toNat then -1 else mi_a h 124 i) → (∀ i, mi_a h3 125 i = if i = (mi_f h0 13963).toNat then -1 else mi_a h 125 i) → ab_Fr [(15360, 15361), (15488, 15489), (15616, 15617), (15872, 15873), (16000, 16001)] h h3 → (s = 9 → 0 ≤ v ∧ v < 26) → me_E (d + 9) 190 155 [some (.inr (.inr 109)), some (.inl (mi_f h0 13963))] [] h3 (px_Q g h0) := fun {h3 v} ev r1 r2 r2p r2w r3 r4 r5 r6 => by
    have FA : ab_Fr [(13963, 13964), (15232, 15233), (15360, 15361), (15488, 15489), (15616, 15617), (15872, 15873), (16000, 16001)] h0 h3 := (s2.wide (fun c hc => ab_swr_ok (by decide) hc)).trans (r5.wide (fun c hc => ab_swr_ok (by decide) hc))
    have a119 : ∀ i, mi_a h3 119 i = if i = (mi_f h0 13963).toNat then s else mi_a h0 119 i := fun i => by rw [me_a (k := 119) r5 s1 rfl rfl, s4]
    have a120 : ∀ i, mi_a h3 120 i = if i = (mi_f h0 13963).toNat then v else mi_a h0 120 i := fun i => by rw [r2, me_a (k := 120) s2 hS0 rfl rfl]
    have a121 : ∀ i, mi_a h3 121 i = if i = (mi_f h0 13963).toNat then mi_f h0 14002 else mi_a h0 121 i := fun i => by rw [r2p, e2, me_a (k := 121) s2 hS0 rfl rfl]
    have a122 : ∀ i, mi_a h3 122 i = if i = (mi_f h0 13963).toNat then 0 else mi_a h0 122 i := fun i => by rw [r2w, me_a (k := 122) s2 hS0 rfl rfl]
    have a124 : ∀ i, mi_a h3 124 i = if i = (mi_f h0 13963).toNat then -1 else mi_a h0 124 i := fun i => by rw [r3, me_a (k := 124) s2 hS0 rfl rfl]
    have a125 : ∀ i, mi_a h3 125 i = if i = (mi_f h0 13963).toNat then -1 else mi_a h0 125 i := fun i => by rw [r4, me_a (k := 125) s2 hS0 rfl rfl]
    have f63 : mi_f h3 13963 = mi_f h0 13963 + 1 := (me_f (c := 13963) r5 s1 rfl rfl).trans s3
    have T : pt_T h0 h3 s := by
      refine ⟨r1, FA.wide (fun c hc => ab_swr_ok (by decide) hc), f63, a119, fun i hi => ?_, a124, a125, ?_, fun x => ?_, a121⟩
      · rw [a120, if_neg hi]
      · rw [me_f (c := 13960) FA hS0 rfl rfl]
        exact hP.2.2.2.2
      · rw [a120, if_pos rfl]
        exact r6 x
    have RU := RQ_unit (s := s) (w := v) (p := mi_f h0 14002) hq hS0 FA f63 a119 a120 a121 a122 a124 a125
    rw [ev] at RU
    refine px155 hP hq hT hU hk T RU (fun k hk => ?_) ht
    rw [me_f (c := 13962) FA hS0 rfl rfl] at hk
    rw [me_a (k := 117) FA hS0 rfl rfl, me_b (k := 118) FA hS0 rfl rfl]
    exact hl k hk
  refine mt_ptD s1 ok ?_ ?_
  · intro b c
    refine ⟨⟨by omega, by omega⟩, fun h1 g1 g2 g3 g4 g5 g6 g7 => ?_⟩
    refine go (v := 0) ?_ g1 g2 g3 g4 g5 g6 g7 (fun x => by have := ht2 x; omega)
    unfold pu_w
    rw [if_neg (by omega)]
  · intro b c
    have tv := hP.2.2.2.1.2.2.1 (by omega)
    refine ⟨⟨by omega, by omega⟩, fun h1 g1 g2 g3 g4 g5 g6 g7 => ?_⟩
    rw [e4] at g2
    refine go (v := (mx_l h0 14004).toInt32.toInt) ?_ g1 g2 g3 g4 g5 g6 g7 (fun _ => tv)
    unfold pu_w
    rw [if_pos (by omega)]
    exact hv2 (by omega)
theorem pu_s9 {t v : Int} (h : pu_s t v = 9) : t = 2 := by
  unfold pu_s at h
  by_cases c1 : t = 1
  · rw [if_pos c1] at h
    exfalso
    unfold so_r at h
    revert h
    split <;> (try decide)
    split <;> (try decide)
    split <;> (try decide)
    split <;> (try decide)
    split <;> (try decide)
    split <;> (try decide)
    split <;> (try decide)
  · rw [if_neg c1] at h
    by_cases c2 : t = 2
    · exact c2
    · rw [if_neg c2] at h
      by_cases c3 : t = 40
      · rw [if_pos c3] at h
        exact absurd h (by decide)
      · rw [if_neg c3] at h
        exact absurd h (by decide)
theorem so_r_b (v : Int) : -1 ≤ so_r v ∧ so_r v ≤ 7 := by
  unfold so_r
  split
  · decide
  split
  · decide
  split
  · decide
  split
  · decide
  split
  · decide
  split
  · decide
  split <;> decide
theorem px48 (hP : pt_P h0 Y z q) (hq : RQ g h0) (hT : px_T h0) (hl : lc_ok h0) (hU : mi_f h0 13963 < 60) (hk : mi_f h0 14001 = 40 → mi_f h0 14003 ≠ 4) (hv2 : mi_f h0 14001 = 2 → (mx_l h0 14004).toInt32.toInt = (mx_l h0 14004).toInt) (s1 : ab_Sh sx_sk h) (s2 : ab_Fr [(13963, 13964)] h0 h) (s3 : mi_f h 13963 = mi_f h0 13963 + 1) : me_E (d + 9) 190 48 [some (.inr (.inr 109)), some (.inl (mi_f h0 13963))] [] h (px_Q g h0) := by
  have hS0 := hP.2.2.1
  have bU := me_fb (c := 13963) hS0 rfl
  have ok : mi_in (mi_f h0 13963) := ⟨by omega, by omega⟩
  have e1 : mi_f h 14001 = mi_f h0 14001 := me_f (c := 14001) s2 hS0 rfl rfl
  have e4 : mx_l h 14004 = mx_l h0 14004 := me_l (c := 14004) s2 hS0 rfl rfl
  have fin : ∀ {h3 : sm_H} {s : Int}, ab_Sh sx_sk h3 → (∀ i, mi_a h3 119 i = if i = (mi_f h0 13963).toNat then s else mi_a h 119 i) → ab_Fr [(15232, 15233)] h h3 → s = pu_s (mi_f h0 14001) (mx_l h0 14004).toInt → me_E (d + 9) 190 101 [some (.inr (.inr 109)), some (.inl (mi_f h0 13963))] [] h3 (px_Q g h0) := fun {h3 s} r1 r2 r3 r4 => by
    refine px101 hP hq hT hl hU hk r4 (fun x => pu_s9 (r4.symm.trans x)) hv2 r1 ((s2.wide (fun c hc => ab_swr_ok (by decide) hc)).trans (r3.wide (fun c hc => ab_swr_ok (by decide) hc))) ((me_f (c := 13963) r3 s1 rfl rfl).trans s3) (fun i => ?_)
    rw [r2, me_a (k := 119) s2 hS0 rfl rfl]
  refine mt_ptB s1 ok ?_ ?_ ?_ ?_
  · intro b c1 c2 c3
    refine ⟨⟨by omega, by omega⟩, fun h1 g1 g2 g3 => fin g1 g2 g3 ?_⟩
    unfold pu_s
    rw [if_neg (by omega), if_neg (by omega), if_neg (by omega)]
  · intro b c1 c2 c3
    refine ⟨⟨by omega, by omega⟩, fun h1 g1 g2 g3 => fin g1 g2 g3 ?_⟩
    unfold pu_s
    rw [if_neg (by omega), if_neg (by omega), if_pos (by omega)]
  · intro b c1 c2
    refine ⟨⟨by omega, by omega⟩, fun h1 g1 g2 g3 => fin g1 g2 g3 ?_⟩
    unfold pu_s
    rw [if_neg (by omega), if_pos (by omega)]
  · intro b c1 h1 g1 g2
    have e := me_nil g2
    subst e
    refine ⟨_, me_sortx (d := d + 8) s1, fun w h2 ow hq2 => ?_⟩
    obtain ⟨rfl, rfl⟩ := hq2
    have sb := so_r_b (mx_l h2 14004).toInt
    refine mt_ptC (zz := so_r (mx_l h2 14004).toInt) (zv := mi_f h0 13963) s1 ok ⟨by omega, by omega⟩ ok ?_
    refine ⟨⟨⟨by omega, by omega⟩, ⟨by omega, by omega⟩⟩, fun h3 g1 g2 g3 => fin g1 g2 g3 ?_⟩
    unfold pu_s
    rw [if_pos (by omega), e4]
theorem me_partx (hP : pt_P h0 Y z q) (hq : RQ g h0) (hT : px_T h0) (hl : lc_ok h0) (hv2 : mi_f h0 14001 = 2 → (mx_l h0 14004).toInt32.toInt = (mx_l h0 14004).toInt) : me_E (d + 9) 190 0 [some (.inr (.inr 109)), none] [] h0 (px_Q g h0) := by
  have hS0 := hP.2.2.1
  have bP := hP.2.2.2.1.1
  have hf := hP.2.2.2.2
  have gU : g 0 0 = mi_f h0 13963 := hq.1.1
  have gO : g 0 5 = mi_f h0 14003 := hq.1.2.2.2.2.2
  have bl : rp_N g (mi_f h0 14001) (mx_l h0 14004).toInt → ∃ Q1, me_E (d + 8) 184 0 (mi_entry 3 [.inr (.inr 109), .inl ((3 : Int)), .inl (mi_f h0 14002)]) [] h0 Q1 ∧ ∀ w h2, (∀ x, w = some x → mi_ok x) → Q1 w h2 → me_E (d + 9) 190 35 [some (.inr (.inr 109)), none] (mi_back w []) h2 (px_Q g h0) := fun hn => by
    refine ⟨_, me_blamex (d := d + 8) hS0 (by decide) (by decide) (by omega) (by omega) hf, fun w h2 ow hq => ?_⟩
    obtain ⟨rfl, t1, t2, t3⟩ := hq
    refine mt_ptK t1 (fun h3 g1 g2 => ?_)
    have e := me_nil g2
    subst e
    exact ⟨rfl, t1, Or.inl ⟨hn, t3⟩⟩
  refine mt_ptA hS0 ?_ ?_ ?_ ?_
  · intro b c h1 g1 g2
    have e := me_nil g2
    subst e
    exact bl (Or.inl (by omega))
  · intro b1 b2 c1 c2
    refine ⟨⟨⟨by omega, by omega⟩, ⟨by omega, by omega⟩⟩, fun h1 g1 g2 g3 => px48 hP hq hT hl (by omega) (fun x => absurd x c2) hv2 g1 g3 g2⟩
  · intro b1 b2 b3 c1 c2 c3
    refine ⟨⟨⟨by omega, by omega⟩, ⟨by omega, by omega⟩⟩, fun h1 g1 g2 g3 => px48 hP hq hT hl (by omega) (fun _ => c3) hv2 g1 g3 g2⟩
  · intro b1 b2 b3 c1 c2 c3 h1 g1 g2
    have e := me_nil g2
    subst e
    exact bl (Or.inr (Or.inl ⟨by omega, by omega⟩))
end PTZ
