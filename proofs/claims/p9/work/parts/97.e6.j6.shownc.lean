/-! the class prints tokens: separate, letters, digits -/
section CSH
variable {d : Nat} {h : sm_H} {x : Option ox}
theorem cs91 {zw : Int} {q2 : Option mi_V} (hS : ab_Sh sx_sk h) (w0 : 0 ≤ zw) (w1 : zw ≤ 1) (o2 : ∀ v, q2 = some v → mi_ok v) (hR : oC h x) : me_E (d + 2) 139 91 [some (.inr (.inr 108)), some (.inl zw), q2] [] h (fun w h' => w = none ∧ ab_Sh sx_sk h' ∧ ab_Fr [(13833, 13836)] h h' ∧ oC h' (x.map (fun o => (o.1, 0, 0, o.2.2.2))) ∧ mi_f h' 13835 = zw) := by
  refine mt_kosF hS ⟨by omega, by omega⟩ o2 ?_
  refine ⟨⟨w0, w1⟩, fun h1 g1 g2 g3 g4 g5 => ⟨rfl, g1, g5, ?_, g4⟩⟩
  rcases hR with ⟨rfl, b, c, c'⟩ | ⟨o, rfl, b, c, c1, c2, c3, c4, c5⟩
  · exact Or.inl ⟨rfl, (me_f (c := 13827) g5 hS rfl rfl).trans b, (me_f (c := 13836) g5 hS rfl rfl).trans c, by rw [me_f (c := 7425) g5 hS rfl rfl]; exact c'⟩
  · exact Or.inr ⟨_, rfl, (me_f (c := 13827) g5 hS rfl rfl).trans b, (me_f (c := 13836) g5 hS rfl rfl).trans c, (me_f (c := 7425) g5 hS rfl rfl).trans c1, fun k hk => by rw [me_a (k := 59) g5 hS rfl rfl]; exact c2 k hk, g3, g2, (me_f (c := 13832) g5 hS rfl rfl).trans c5⟩
theorem al10 : tx_alc 10 := Or.inl rfl
theorem al32 : tx_alc 32 := Or.inr ⟨by decide, by decide⟩
theorem cs25 {zw i b l : Int} (w0 : 0 ≤ zw) (w1 : zw ≤ 1) (i0 : 0 ≤ i) (i1 : i ≤ 100000) : ∀ (m : Nat) (zk : Int) (h : sm_H) (z : Option (List Int)), 2 * i - zk = m → 0 ≤ zk → ab_Sh sx_sk h → mi_f h 13832 = i → oC h (z.map (fun C => (C, b, l, i))) → me_E (d + 2) 139 25 [some (.inr (.inr 108)), some (.inl zw), some (.inl zk)] [] h (fun w h' => w = none ∧ ab_Sh sx_sk h' ∧ ab_Fr wr_cs h h' ∧ oC h' ((z.bind (owl (List.replicate m 32))).map (fun C => (C, 0, 0, i))) ∧ mi_f h' 13835 = zw) := by
  have owz : mi_in zw := ⟨by omega, by omega⟩
  intro m
  induction m with
  | zero =>
    intro zk h z hm k0 hS hi hR
    have ok : mi_in zk := ⟨by omega, by omega⟩
    refine mt_kosC hS owz ok ?_ (by intros; exfalso; omega) (by intros; exfalso; omega)
    intro b1 c
    refine ⟨by omega, fun h1 g1 g2 => ?_⟩
    have e := me_nil g2
    subst e
    refine (cs91 g1 w0 w1 (me_oi ok) hR).imp (fun w h' hq => ⟨hq.1, hq.2.1, hq.2.2.1.wide (fun c hc => ab_swr_ok (by decide) hc), ?_, hq.2.2.2.2⟩)
    have := hq.2.2.2.1
    cases z with
    | none => exact this
    | some C => exact this
  | succ m ih =>
    intro zk h z hm k0 hS hi hR
    have ok : mi_in zk := ⟨by omega, by omega⟩
    refine mt_kosC hS owz ok (by intros; exfalso; omega) ?_ ?_
    · intro b1 b2 c c'
      refine ⟨by omega, fun h1 g1 g2 => ?_⟩
      have e := me_nil g2
      subst e
      have hz : z = none := by
        rcases hR with ⟨a, -⟩ | ⟨o, -, a, -⟩
        · cases z with
          | none => rfl
          | some C => cases a
        · exact absurd a c'
      subst hz
      refine (cs91 g1 w0 w1 (me_oi ok) hR).imp (fun w h' hq => ⟨hq.1, hq.2.1, hq.2.2.1.wide (fun c hc => ab_swr_ok (by decide) hc), hq.2.2.2.1, hq.2.2.2.2⟩)
    · intro b1 b2 c c'
      refine ⟨by omega, fun h1 g1 g2 => ?_⟩
      have e := me_nil g2
      subst e
      refine ⟨_, me_wrc (d := d) g1 al32 hR, fun w h2 hw hq => ?_⟩
      obtain ⟨rfl, q1, q2, q3⟩ := hq
      refine mt_kosD q1 owz ok ?_
      refine ⟨by omega, fun h3 r1 r2 => ?_⟩
      have e := me_nil r2
      subst e
      have hz : ∃ C, z = some C := by
        rcases hR with ⟨-, a, -⟩ | ⟨o, a, -⟩
        · exfalso; omega
        · cases z with
          | none => cases a
          | some C => exact ⟨C, rfl⟩
      obtain ⟨C, rfl⟩ := hz
      have e3 : ((some C).map (fun C => ((C, b, l, i) : ox))).bind (owx 32) = (Option.map (fun C => (C, b, l, i)) (ow 32 C)) := rfl
      rw [e3] at q3
      refine (ih (zk + 1) h3 _ (by omega) (by omega) q1 ((me_f (c := 13832) q2 g1 rfl rfl).trans hi) q3).imp (fun w h' hq => ⟨hq.1, hq.2.1, (q2.wide (fun c hc => ab_swr_ok (by decide) hc)).trans hq.2.2.1, hq.2.2.2.1, hq.2.2.2.2⟩)
/-- what is due before a token that begins with zc -/
theorem me_sepc {zw zc : Int} (hS : ab_Sh sx_sk h) (w0 : 0 ≤ zw) (w1 : zw ≤ 1) (hzc : zw ≠ 0 ↔ wy zc = true) (i0 : 0 ≤ mi_f h 13832) (i1 : mi_f h 13832 ≤ 100000) (hR : oC h x) (hW : oCw h x) : me_E (d + 2) 139 0 [some (.inr (.inr 108)), some (.inl zw), none] [] h (fun w h' => w = none ∧ ab_Sh sx_sk h' ∧ ab_Fr wr_cs h h' ∧ oC h' (x.bind (ob zc)) ∧ mi_f h' 13835 = zw) := by
  have owz : mi_in zw := ⟨by omega, by omega⟩
  have f91 : ∀ (h1 : sm_H) (y : Option ox), ab_Sh sx_sk h1 → ab_Fr wr_cs h h1 → oC h1 y → y.map (fun o => ((o.1, 0, 0, o.2.2.2) : ox)) = x.bind (ob zc) → me_E (d + 2) 139 91 [some (.inr (.inr 108)), some (.inl zw), none] [] h1 (fun w h' => w = none ∧ ab_Sh sx_sk h' ∧ ab_Fr wr_cs h h' ∧ oC h' (x.bind (ob zc)) ∧ mi_f h' 13835 = zw) := by
    intro h1 y g1 g2 g3 g4
    refine (cs91 g1 w0 w1 me_on g3).imp (fun w h' hq => ⟨hq.1, hq.2.1, g2.trans (hq.2.2.1.wide (fun c hc => ab_swr_ok (by decide) hc)), ?_, hq.2.2.2.2⟩)
    rw [← g4]
    exact hq.2.2.2.1
  have wr91 : ∀ (h1 : sm_H), h1 = h → (∀ o, x = some o → obw zc o = ow 32 o.1) → ∃ Q1, me_E (d + 1) 140 0 (mi_entry 2 [.inr (.inr 108), .inl ((32 : Int))]) [] h1 Q1 ∧ ∀ w h2, (∀ x, w = some x → mi_ok x) → Q1 w h2 → me_E (d + 2) 139 91 [some (.inr (.inr 108)), some (.inl zw), none] (mi_back w []) h2 (fun w h' => w = none ∧ ab_Sh sx_sk h' ∧ ab_Fr wr_cs h h' ∧ oC h' (x.bind (ob zc)) ∧ mi_f h' 13835 = zw) := by
    intro h1 e hx
    subst e
    refine ⟨_, me_wrc (d := d) hS al32 hR, fun w h2 hw hq => ?_⟩
    obtain ⟨rfl, q1, q2, q3⟩ := hq
    refine f91 h2 _ q1 (q2.wide (fun c hc => ab_swr_ok (by decide) hc)) q3 ?_
    cases x with
    | none => rfl
    | some o =>
      show (owx 32 o).map _ = ob zc o
      unfold owx ob
      rw [hx o rfl]
      cases ow 32 o.1 with
      | none => rfl
      | some C => rfl
  have no91 : (∀ o, x = some o → obw zc o = some o.1) → ∀ h1, ab_Sh sx_sk h1 → ab_Fr [] h h1 → me_E (d + 2) 139 91 [some (.inr (.inr 108)), some (.inl zw), none] [] h1 (fun w h' => w = none ∧ ab_Sh sx_sk h' ∧ ab_Fr wr_cs h h' ∧ oC h' (x.bind (ob zc)) ∧ mi_f h' 13835 = zw) := by
    intro hx h1 g1 g2
    have e := me_nil g2
    subst e
    refine f91 h1 x g1 ab_Fr.refl hR ?_
    cases x with
    | none => rfl
    | some o =>
      show _ = ob zc o
      unfold ob
      rw [hx o rfl]
      rfl
  have f57 : (∀ o, x = some o → ¬ (o.1 ≠ [] ∧ o.2.2.1 ≠ 0)) → ∀ h1, ab_Sh sx_sk h1 → ab_Fr [] h h1 → me_E (d + 2) 139 57 [some (.inr (.inr 108)), some (.inl zw), none] [] h1 (fun w h' => w = none ∧ ab_Sh sx_sk h' ∧ ab_Fr wr_cs h h' ∧ oC h' (x.bind (ob zc)) ∧ mi_f h' 13835 = zw) := by
    intro hx h1 g1 g2
    have e := me_nil g2
    subst e
    have ne : ∀ o, x = some o → 0 < mi_f h1 7425 → o.1 ≠ [] ∧ o.2.1 = mi_f h1 13834 ∧ (mi_f h1 13835 ≠ 0 ↔ wy (olc o.1) = true) := fun o ho hp => by
      subst ho
      obtain ⟨-, -, c1, -, c3, -⟩ := oC_len hR
      have e0 : o.1 ≠ [] := fun q => by rw [q] at c1; have : (([] : List Int).length : Int) = 0 := rfl; omega
      exact ⟨e0, c3.symm, hW o rfl e0⟩
    refine mt_kosE g1 owz ?_ ?_ ?_ ?_ ?_
    · intro b c
      refine no91 (fun o ho => ?_)
      subst ho
      obtain ⟨-, -, c1, -⟩ := oC_len hR
      have e0 : o.1 = [] := List.length_eq_zero_iff.mp (by omega)
      unfold obw
      rw [if_neg (hx o rfl), if_neg (fun q => q.1 e0)]
    · intro b b2 c c2 h2 r1 r2
      have e := me_nil r2
      subst e
      refine wr91 _ rfl (fun o ho => ?_)
      obtain ⟨k1, k2, k3⟩ := ne o ho c
      unfold obw
      rw [if_neg (hx o ho), if_pos ⟨k1, Or.inl (by rw [k2]; exact c2)⟩]
    · intro b b2 b3 c c2 c3
      refine no91 (fun o ho => ?_)
      obtain ⟨k1, k2, k3⟩ := ne o ho c
      unfold obw
      rw [if_neg (hx o ho), if_neg (fun q => by
        rcases q.2 with q | q
        · exact q (by rw [k2]; exact c2)
        · exact (k3.mpr q.1) c3)]
    · intro b b2 b3 c c2 c3 c4
      refine no91 (fun o ho => ?_)
      obtain ⟨k1, k2, k3⟩ := ne o ho c
      unfold obw
      rw [if_neg (hx o ho), if_neg (fun q => by
        rcases q.2 with q | q
        · exact q (by rw [k2]; exact c2)
        · exact (hzc.mpr q.2) c4)]
    · intro b b2 b3 c c2 c3 c4 h2 r1 r2
      have e := me_nil r2
      subst e
      refine wr91 _ rfl (fun o ho => ?_)
      obtain ⟨k1, k2, k3⟩ := ne o ho c
      unfold obw
      rw [if_neg (hx o ho), if_pos ⟨k1, Or.inr ⟨k3.mp c3, hzc.mp c4⟩⟩]
  refine mt_kosA hS owz ?_ ?_ ?_
  · intro b c
    refine f57 (fun o ho q => ?_)
    subst ho
    obtain ⟨-, -, c1, -⟩ := oC_len hR
    exact q.1 (List.length_eq_zero_iff.mp (by omega))
  · intro b b2 c c2
    refine f57 (fun o ho q => ?_)
    subst ho
    obtain ⟨-, -, -, -, -, c4, -⟩ := oC_len hR
    exact q.2 (by rw [← c4]; exact c2)
  · intro b b2 c c2 h1 g1 g2
    have e := me_nil g2
    subst e
    refine ⟨_, me_wrc (d := d) g1 al10 hR, fun w h2 hw hq => ?_⟩
    obtain ⟨rfl, q1, q2, q3⟩ := hq
    refine mt_kosB q1 owz ?_
    intro h3 r1 r2
    have e := me_nil r2
    subst e
    have f32 : mi_f h3 13832 = mi_f h1 13832 := me_f (c := 13832) q2 g1 rfl rfl
    have key : ∀ (z : Option (List Int)) (b l : Int), oC h3 (z.map (fun C => (C, b, l, mi_f h1 13832))) → (z.bind (owl (List.replicate (2 * mi_f h1 13832).toNat 32))).map (fun C => ((C, 0, 0, mi_f h1 13832) : ox)) = x.bind (ob zc) → me_E (d + 2) 139 25 [some (.inr (.inr 108)), some (.inl zw), some (.inl 0)] [] h3 (fun w h' => w = none ∧ ab_Sh sx_sk h' ∧ ab_Fr wr_cs h1 h' ∧ oC h' (x.bind (ob zc)) ∧ mi_f h' 13835 = zw) := by
      intro z b l hz he
      refine (cs25 (i := mi_f h1 13832) (b := b) (l := l) w0 w1 i0 i1 (2 * mi_f h1 13832).toNat 0 h3 z (by omega) (by decide) r1 f32 hz).imp (fun w h' hq => ⟨hq.1, hq.2.1, (q2.wide (fun c hc => ab_swr_ok (by decide) hc)).trans hq.2.2.1, ?_, hq.2.2.2.2⟩)
      rw [← he]
      exact hq.2.2.2.1
    cases x with
    | none => exact key none 0 0 q3 rfl
    | some o =>
      obtain ⟨-, -, c1, -, -, c4, c5⟩ := oC_len hR
      have e0 : o.1 ≠ [] := fun q => by rw [q] at c1; have : (([] : List Int).length : Int) = 0 := rfl; omega
      have e3 : (some o).bind (owx 10) = (ow 10 o.1).map (fun C => (C, o.2.1, o.2.2.1, mi_f h1 13832)) := by
        show owx 10 o = _
        unfold owx
        rw [c5]
      rw [e3] at q3
      refine key _ o.2.1 o.2.2.1 q3 ?_
      show _ = ob zc o
      unfold ob obw
      rw [if_pos ⟨e0, by rw [← c4]; exact c2⟩, c5]
end CSH
