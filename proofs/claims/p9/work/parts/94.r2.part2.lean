/-! reading: part, from its begin -/
def pt_T (h0 h : sm_H) (s : Int) : Prop :=
  ab_Sh sx_sk h ∧ ab_Fr pt_V h0 h ∧ mi_f h 13963 = mi_f h0 13963 + 1 ∧
  (∀ i, mi_a h 119 i = if i = (mi_f h0 13963).toNat then s else mi_a h0 119 i) ∧
  (∀ i, i ≠ (mi_f h0 13963).toNat → mi_a h 120 i = mi_a h0 120 i) ∧
  (∀ i, mi_a h 124 i = if i = (mi_f h0 13963).toNat then -1 else mi_a h0 124 i) ∧
  (∀ i, mi_a h 125 i = if i = (mi_f h0 13963).toNat then -1 else mi_a h0 125 i) ∧
  mi_f h 13960 = 0 ∧
  (s = 9 → 0 ≤ mi_a h 120 (mi_f h0 13963).toNat ∧ mi_a h 120 (mi_f h0 13963).toNat < 26) ∧
  (∀ i, mi_a h 121 i = if i = (mi_f h0 13963).toNat then mi_f h0 14002 else mi_a h0 121 i)
/-- what part is begun with -/
def pt_P (h0 : sm_H) (Y : wk_Y) (z : rd_Z) (q : Int) : Prop :=
  rs_I h0 Y z q ∧ 0 ≤ q ∧ ab_Sh sx_sk h0 ∧ sn_R h0 ∧ mi_f h0 13960 = 0
/-- the sort that the token asks for -/
def pt_s (h0 : sm_H) (s : Int) : Prop := (s = 10 ↔ mi_f h0 14001 = 40) ∧ (s = 10 → mi_f h0 14003 ≠ 4) ∧ (mi_f h0 14001 = 1 → s ≤ 7) ∧ (s = 9 → mi_f h0 14001 = 2)
section PTQ
variable {d : Nat} {h0 h : sm_H} {Y : wk_Y} {z : rd_Z} {q s : Int}
theorem pt_go (hP : pt_P h0 Y z q) (hU : mi_f h0 13963 < 60) (ht : pt_s h0 s) (hs : pt_S h0 h s) : me_E (d + 9) 190 196 [some (.inr (.inr 109)), some (.inl (mi_f h0 13963))] [] h (pt_Q h0) := by
  obtain ⟨p1, p2, p3, p4, p5⟩ := hP
  obtain ⟨t1, t2, t3, t4⟩ := ht
  by_cases c : s = 10
  · subst c
    exact pt_grp p1 p2 p3 hU hs (t1.mp rfl) (t2 rfl) p4.1
  · exact pt_put p1 p2 p3 hU hs c (fun x => c (t1.mpr x)) t3 p4.1
theorem pt155 (hP : pt_P h0 Y z q) (hU : mi_f h0 13963 < 60) (ht : pt_s h0 s) (hs : pt_T h0 h s) : me_E (d + 9) 190 155 [some (.inr (.inr 109)), some (.inl (mi_f h0 13963))] [] h (pt_Q h0) := by
  have hS0 := hP.2.2.1
  have bU := me_fb (c := 13963) hS0 rfl
  have bP := hP.2.2.2.1.1
  have ok : mi_in (mi_f h0 13963) := ⟨by omega, by omega⟩
  obtain ⟨s1, s2, s3, s4, s5, s6, s7, s8, s9, s10⟩ := id hs
  have eU : mi_a h 119 (mi_f h0 13963).toNat = s := by rw [s4, if_pos rfl]
  refine mt_ptE s1 ok ?_ ?_
  · intro c
    refine ⟨⟨by omega, by omega⟩, fun h1 g1 g2 => ?_⟩
    have e := me_nil g2
    subst e
    rw [eU] at c
    exact pt_go hP hU ht ⟨s1, s2, s3, s4, s5, s6, s7, by omega, s9, fun x => absurd x c, s10⟩
  · intro c
    refine ⟨⟨by omega, by omega⟩, fun h1 g1 g2 => ?_⟩
    have e := me_nil g2
    subst e
    rw [eU] at c
    refine ⟨_, me_literal (d := d + 8) s1, fun w h2 ow hq => ?_⟩
    obtain ⟨q1, q2, v, rfl, v0, v1⟩ := hq
    have F2 : ab_Fr pt_V h0 h2 := s2.trans (q2.wide (fun c hc => ab_swr_ok (by decide) hc))
    have e2 : mi_f h2 14002 = mi_f h0 14002 := me_f (c := 14002) F2 hS0 rfl rfl
    have ef : mi_f h2 13960 = 0 := (me_f (c := 13960) q2 s1 rfl rfl).trans s8
    have mk : ∀ {h3 : sm_H} {wr : List (Nat × Nat)}, ab_Sh sx_sk h3 → ab_Fr wr h2 h3 → ab_sub_wr wr [(13960, 13961), (15360, 15361)] = true → (∀ i, mi_a h3 120 i = if i = (mi_f h0 13963).toNat then v else mi_a h2 120 i) → (v < 20 ∨ 0 < mi_f h3 13960) → 0 ≤ mi_f h3 13960 → pt_S h0 h3 s := fun {h3 wr} r1 r2 hw r3 r4 r5 => by
      have r2 : ab_Fr [(13960, 13961), (15360, 15361)] h2 h3 := r2.wide (fun c hc => ab_swr_ok hw hc)
      refine ⟨r1, F2.trans (r2.wide (fun c hc => ab_swr_ok (by decide) hc)), ?_, fun i => ?_, fun i hi => ?_, fun i => ?_, fun i => ?_, r5, fun x => by omega, fun _ => ?_, fun i => ?_⟩
      · rw [me_f (c := 13963) r2 q1 rfl rfl, me_f (c := 13963) q2 s1 rfl rfl, s3]
      · rw [me_a (k := 119) r2 q1 rfl rfl, me_a (k := 119) q2 s1 rfl rfl, s4]
      · rw [r3, if_neg hi, me_a (k := 120) q2 s1 rfl rfl, s5 i hi]
      · rw [me_a (k := 124) r2 q1 rfl rfl, me_a (k := 124) q2 s1 rfl rfl, s6]
      · rw [me_a (k := 125) r2 q1 rfl rfl, me_a (k := 125) q2 s1 rfl rfl, s7]
      · rw [r3, if_pos rfl]
        exact ⟨v0, r4⟩
      · rw [me_a (k := 121) r2 q1 rfl rfl, me_a (k := 121) q2 s1 rfl rfl, s10]
    refine mt_ptF (zz := v) (zv := mi_f h0 13963) q1 ok ⟨by omega, by omega⟩ ok ?_ ?_
    · intro c2
      rw [if_pos rfl] at c2
      refine ⟨⟨⟨by omega, by omega⟩, ⟨by omega, by omega⟩⟩, fun h3 r1 r2 r3 => ?_⟩
      have ef3 : mi_f h3 13960 = 0 := (me_f (c := 13960) r3 q1 rfl rfl).trans ef
      exact pt_go hP hU ht (mk r1 r3 (by decide) r2 (Or.inl (by omega)) (by omega))
    · intro c2
      refine ⟨⟨⟨by omega, by omega⟩, ⟨by omega, by omega⟩⟩, fun h3 r1 r2 r3 => ?_⟩
      have ef3 : mi_f h3 13960 = 0 := (me_f (c := 13960) r3 q1 rfl rfl).trans ef
      refine ⟨_, me_blame (d := d + 8) r1 (by decide) (by decide) (by omega) (by omega) (by omega), fun w h4 ow hq => ?_⟩
      obtain ⟨rfl, t1, t2, t3⟩ := hq
      have F4 : ab_Fr [(13960, 13961), (15360, 15361)] h2 h4 := (r3.wide (fun c hc => ab_swr_ok (by decide) hc)).trans (t2.wide (fun c hc => ab_swr_ok (by decide) hc))
      exact pt_go hP hU ht (mk t1 F4 (by decide) (fun i => by rw [me_a (k := 120) t2 r1 rfl rfl, r2]) (Or.inr t3) (by omega))
theorem pt101 (hP : pt_P h0 Y z q) (hU : mi_f h0 13963 < 60) (ht : pt_s h0 s) (s1 : ab_Sh sx_sk h) (s2 : ab_Fr [(13963, 13964), (15232, 15233)] h0 h) (s3 : mi_f h 13963 = mi_f h0 13963 + 1) (s4 : ∀ i, mi_a h 119 i = if i = (mi_f h0 13963).toNat then s else mi_a h0 119 i) : me_E (d + 9) 190 101 [some (.inr (.inr 109)), some (.inl (mi_f h0 13963))] [] h (pt_Q h0) := by
  have hS0 := hP.2.2.1
  have bU := me_fb (c := 13963) hS0 rfl
  have ok : mi_in (mi_f h0 13963) := ⟨by omega, by omega⟩
  have e1 : mi_f h 14001 = mi_f h0 14001 := me_f (c := 14001) s2 hS0 rfl rfl
  have e4 : mx_l h 14004 = mx_l h0 14004 := me_l (c := 14004) s2 hS0 rfl rfl
  have mk : ∀ {h3 : sm_H} {v : Int}, ab_Sh sx_sk h3 → (∀ i, mi_a h3 120 i = if i = (mi_f h0 13963).toNat then v else mi_a h 120 i) → (∀ i, mi_a h3 121 i = if i = (mi_f h0 13963).toNat then mi_f h 14002 else mi_a h 121 i) → (∀ i, mi_a h3 124 i = if i = (mi_f h0 13963).toNat then -1 else mi_a h 124 i) → (∀ i, mi_a h3 125 i = if i = (mi_f h0 13963).toNat then -1 else mi_a h 125 i) → ab_Fr [(15360, 15361), (15488, 15489), (15616, 15617), (15872, 15873), (16000, 16001)] h h3 → (s = 9 → 0 ≤ v ∧ v < 26) → pt_T h0 h3 s := fun {h3 v} r1 r2 r2p r3 r4 r5 r6 => by
    refine ⟨r1, (s2.wide (fun c hc => ab_swr_ok (by decide) hc)).trans (r5.wide (fun c hc => ab_swr_ok (by decide) hc)), (me_f (c := 13963) r5 s1 rfl rfl).trans s3, fun i => ?_, fun i hi => ?_, fun i => ?_, fun i => ?_, ?_, fun x => ?_, fun i => ?_⟩
    · rw [me_a (k := 119) r5 s1 rfl rfl, s4]
    · rw [r2, if_neg hi, me_a (k := 120) s2 hS0 rfl rfl]
    · rw [r3, me_a (k := 124) s2 hS0 rfl rfl]
    · rw [r4, me_a (k := 125) s2 hS0 rfl rfl]
    · rw [me_f (c := 13960) r5 s1 rfl rfl, me_f (c := 13960) s2 hS0 rfl rfl]
      exact hP.2.2.2.2
    · rw [r2, if_pos rfl]
      exact r6 x
    · rw [r2p, me_f (c := 14002) s2 hS0 rfl rfl, me_a (k := 121) s2 hS0 rfl rfl]
  refine mt_ptD s1 ok ?_ ?_
  · intro b c
    refine ⟨⟨by omega, by omega⟩, fun h1 g1 g2 g3 g4 g5 g6 g7 => ?_⟩
    exact pt155 hP hU ht (mk g1 g2 g3 g5 g6 g7 (fun x => by have := ht.2.2.2 x; omega))
  · intro b c
    refine ⟨⟨by omega, by omega⟩, fun h1 g1 g2 g3 g4 g5 g6 g7 => ?_⟩
    exact pt155 hP hU ht (mk g1 g2 g3 g5 g6 g7 (fun x => by rw [e4]; exact hP.2.2.2.1.2.2.1 (by omega)))
theorem pt48 (hP : pt_P h0 Y z q) (hU : mi_f h0 13963 < 60) (hk : mi_f h0 14001 = 40 → mi_f h0 14003 ≠ 4) (s1 : ab_Sh sx_sk h) (s2 : ab_Fr [(13963, 13964)] h0 h) (s3 : mi_f h 13963 = mi_f h0 13963 + 1) : me_E (d + 9) 190 48 [some (.inr (.inr 109)), some (.inl (mi_f h0 13963))] [] h (pt_Q h0) := by
  have hS0 := hP.2.2.1
  have bU := me_fb (c := 13963) hS0 rfl
  have ok : mi_in (mi_f h0 13963) := ⟨by omega, by omega⟩
  have e1 : mi_f h 14001 = mi_f h0 14001 := me_f (c := 14001) s2 hS0 rfl rfl
  have fin : ∀ {h3 : sm_H} {s : Int}, ab_Sh sx_sk h3 → (∀ i, mi_a h3 119 i = if i = (mi_f h0 13963).toNat then s else mi_a h 119 i) → ab_Fr [(15232, 15233)] h h3 → pt_s h0 s → me_E (d + 9) 190 101 [some (.inr (.inr 109)), some (.inl (mi_f h0 13963))] [] h3 (pt_Q h0) := fun {h3 s} r1 r2 r3 r4 => by
    refine pt101 hP hU r4 r1 ((s2.wide (fun c hc => ab_swr_ok (by decide) hc)).trans (r3.wide (fun c hc => ab_swr_ok (by decide) hc))) ((me_f (c := 13963) r3 s1 rfl rfl).trans s3) (fun i => ?_)
    rw [r2, me_a (k := 119) s2 hS0 rfl rfl]
  refine mt_ptB s1 ok ?_ ?_ ?_ ?_
  · intro b c1 c2 c3
    refine ⟨⟨by omega, by omega⟩, fun h1 g1 g2 g3 => fin g1 g2 g3 ⟨⟨fun x => absurd x (by decide), fun x => by omega⟩, fun x => absurd x (by decide), fun x => by omega, fun x => absurd x (by decide)⟩⟩
  · intro b c1 c2 c3
    refine ⟨⟨by omega, by omega⟩, fun h1 g1 g2 g3 => fin g1 g2 g3 ⟨⟨fun _ => by omega, fun _ => rfl⟩, fun _ => hk (by omega), fun x => by omega, fun x => absurd x (by decide)⟩⟩
  · intro b c1 c2
    refine ⟨⟨by omega, by omega⟩, fun h1 g1 g2 g3 => fin g1 g2 g3 ⟨⟨fun x => absurd x (by decide), fun x => by omega⟩, fun x => absurd x (by decide), fun x => by omega, fun _ => by omega⟩⟩
  · intro b c1 h1 g1 g2
    have e := me_nil g2
    subst e
    refine ⟨_, me_sortOf (d := d + 8) s1, fun w h2 ow hq => ?_⟩
    obtain ⟨rfl, v, rfl, v0, v1⟩ := hq
    refine mt_ptC (zz := v) (zv := mi_f h0 13963) s1 ok ⟨by omega, by omega⟩ ok ?_
    refine ⟨⟨⟨by omega, by omega⟩, ⟨by omega, by omega⟩⟩, fun h3 g1 g2 g3 => fin g1 g2 g3 ⟨⟨fun x => by omega, fun x => by omega⟩, fun x => by omega, fun x => v1, fun x => by omega⟩⟩
theorem me_part (hP : pt_P h0 Y z q) : me_E (d + 9) 190 0 [some (.inr (.inr 109)), none] [] h0 (pt_Q h0) := by
  have hS0 := hP.2.2.1
  have bP := hP.2.2.2.1.1
  have hf := hP.2.2.2.2
  have bl : ∃ Q1, me_E (d + 8) 184 0 (mi_entry 3 [.inr (.inr 109), .inl ((3 : Int)), .inl (mi_f h0 14002)]) [] h0 Q1 ∧ ∀ w h2, (∀ x, w = some x → mi_ok x) → Q1 w h2 → me_E (d + 9) 190 35 [some (.inr (.inr 109)), none] (mi_back w []) h2 (pt_Q h0) := by
    refine ⟨_, me_blame (d := d + 8) hS0 (by decide) (by decide) (by omega) (by omega) (by omega), fun w h2 ow hq => ?_⟩
    obtain ⟨rfl, t1, t2, t3⟩ := hq
    refine mt_ptK t1 (fun h3 g1 g2 => ?_)
    have e := me_nil g2
    subst e
    exact ⟨rfl, t1, t2.wide (fun c hc => ab_swr_ok (by decide) hc), by omega, fun x => by omega⟩
  refine mt_ptA hS0 ?_ ?_ ?_ ?_
  · intro b c h1 g1 g2
    have e := me_nil g2
    subst e
    exact bl
  · intro b1 b2 c1 c2
    refine ⟨⟨⟨by omega, by omega⟩, ⟨by omega, by omega⟩⟩, fun h1 g1 g2 g3 => pt48 hP (by omega) (fun x => absurd x c2) g1 g3 g2⟩
  · intro b1 b2 b3 c1 c2 c3
    refine ⟨⟨⟨by omega, by omega⟩, ⟨by omega, by omega⟩⟩, fun h1 g1 g2 g3 => pt48 hP (by omega) (fun _ => c3) g1 g3 g2⟩
  · intro b1 b2 b3 c1 c2 c3 h1 g1 g2
    have e := me_nil g2
    subst e
    exact bl
end PTQ
