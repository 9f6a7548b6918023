/-! WHAT IS PRINTED, purely: the characters, whether a blank, a line is due, how deep; the reference's write, between, layout -/
abbrev ox : Type := List Int × Int × Int × Int
def ow (c : Int) (C : List Int) : Option (List Int) := if 160 ≤ C.length then none else some (C ++ [c])
def owl : List Int → List Int → Option (List Int)
  | [], C => some C
  | c :: W, C => (ow c C).bind (owl W)
def wy (c : Int) : Bool := decide ((97 ≤ c ∧ c ≤ 122) ∨ (48 ≤ c ∧ c ≤ 57) ∨ (65 ≤ c ∧ c ≤ 90))
def olc (C : List Int) : Int := C.getLast?.getD 0
def obw (c : Int) (o : ox) : Option (List Int) := if o.1 ≠ [] ∧ o.2.2.1 ≠ 0 then (ow 10 o.1).bind (owl (List.replicate (2 * o.2.2.2).toNat 32)) else if o.1 ≠ [] ∧ (o.2.1 ≠ 0 ∨ (wy (olc o.1) = true ∧ wy c = true)) then ow 32 o.1 else some o.1
def ob (c : Int) (o : ox) : Option ox := (obw c o).map (fun C => (C, 0, 0, o.2.2.2))
def owx (c : Int) (o : ox) : Option ox := (ow c o.1).map (fun C => (C, o.2))
def owlx (W : List Int) (o : ox) : Option ox := (owl W o.1).map (fun C => (C, o.2))
/-- a token -/
def otk (W : List Int) (o : ox) : Option ox := (ob (W.headD 0) o).bind (owlx W)
/-- what is no token -/
def oly (s : Int) (o : ox) : ox := (o.1, if s = 4 then 1 else o.2.1, if s = 5 then 1 else o.2.2.1, if s = 6 then o.2.2.2 + 1 else if s = 7 ∧ 0 < o.2.2.2 then o.2.2.2 - 1 else o.2.2.2)
def oRo (h : sm_H) (o : ox) : Prop := mi_f h 14037 = (o.1.length : Int) ∧ (∀ k : Nat, k < o.1.length → o.1[k]? = some (mi_a h 170 k)) ∧ mi_f h 14045 = o.2.1 ∧ mi_f h 14046 = o.2.2.1 ∧ mi_f h 14036 = o.2.2.2
def oR (h : sm_H) (x : Option ox) : Prop := (x = none ∧ mi_f h 14044 = 1) ∨ ∃ o, x = some o ∧ mi_f h 14044 = 0 ∧ oRo h o
def wr_p3 : List (Nat × Nat) := [(14037, 14038), (14044, 14045), (21760, 21761)]
section OUT
variable {h : sm_H} {d : Nat} {x : Option ox}
theorem oR_fr {h' : sm_H} {wr : List (Nat × Nat)} (hR : oR h x) (hF : ab_Fr wr h h') (hS : ab_Sh sx_sk h) (hw : (ab_in wr 14036 || ab_in wr 14037 || ab_in wr 14044 || ab_in wr 14045 || ab_in wr 14046 || ab_in wr 21760) = false) : oR h' x := by
  simp only [Bool.or_eq_false_iff] at hw
  obtain ⟨⟨⟨⟨⟨w1, w2⟩, w3⟩, w4⟩, w5⟩, w6⟩ := hw
  rcases hR with ⟨a, b⟩ | ⟨o, a, b, c1, c2, c3, c4, c5⟩
  · exact Or.inl ⟨a, (me_f (c := 14044) hF hS rfl w3).trans b⟩
  · exact Or.inr ⟨o, a, (me_f (c := 14044) hF hS rfl w3).trans b, (me_f (c := 14037) hF hS rfl w2).trans c1, fun k hk => by rw [me_a (k := 170) hF hS rfl w6]; exact c2 k hk, (me_f (c := 14045) hF hS rfl w4).trans c3, (me_f (c := 14046) hF hS rfl w5).trans c4, (me_f (c := 14036) hF hS rfl w1).trans c5⟩
theorem me_wrx {zc : Int} (hS : ab_Sh sx_sk h) (oc : mi_in zc) (hR : oR h x) : me_E d 220 0 [some (.inr (.inr 109)), some (.inl zc)] [] h (fun w h' => w = none ∧ ab_Sh sx_sk h' ∧ ab_Fr wr_p3 h h' ∧ oR h' (x.bind (owx zc))) := by
  rcases hR with ⟨rfl, b⟩ | ⟨o, rfl, b, c1, c2, c3, c4, c5⟩
  · refine mt_ywr hS oc ?_ (by intros; exfalso; omega) (by intros; exfalso; omega)
    intro b1 c h1 g1 g2 g3
    exact ⟨rfl, g1, g3.wide (fun c hc => ab_swr_ok (by decide) hc), Or.inl ⟨rfl, g2⟩⟩
  · refine mt_ywr hS oc (by intros; exfalso; omega) ?_ ?_
    · intro b1 b2 c c'
      refine ⟨by omega, fun h1 g1 g2 g3 g4 g5 => ⟨rfl, g1, g5, Or.inr ⟨(o.1 ++ [zc], o.2), ?_, g3, ?_, fun k hk => ?_, (me_f (c := 14045) g5 hS rfl rfl).trans c3, (me_f (c := 14046) g5 hS rfl rfl).trans c4, (me_f (c := 14036) g5 hS rfl rfl).trans c5⟩⟩⟩
      · show owx zc o = _
        unfold owx ow
        rw [if_neg (by omega)]
        rfl
      · rw [g2, c1, List.length_append]
        rfl
      · dsimp only at hk ⊢
        rw [List.length_append] at hk
        have hk : k < o.1.length + 1 := hk
        rw [g4]
        by_cases e : k = o.1.length
        · rw [if_pos (by omega), e, List.getElem?_append_right (Nat.le_refl _), Nat.sub_self]
          rfl
        · rw [if_neg (by omega), List.getElem?_append_left (by omega)]
          exact c2 k (by omega)
    · intro b1 b2 c c' h1 g1 g2 g3
      refine ⟨rfl, g1, g3.wide (fun c hc => ab_swr_ok (by decide) hc), Or.inl ⟨?_, g2⟩⟩
      show owx zc o = none
      unfold owx ow
      rw [if_pos (by omega)]
      rfl
theorem me_wyx {zc : Int} (hS : ab_Sh sx_sk h) (oc : mi_in zc) : me_E (d + 1) 221 0 [some (.inl zc)] [] h (fun w h' => h' = h ∧ ∃ z, w = some (.inl z) ∧ mi_in z ∧ (z ≠ 0 ↔ wy zc = true)) := by
  have y0 : ¬ ((97 ≤ zc ∧ zc ≤ 122) ∨ (48 ≤ zc ∧ zc ≤ 57) ∨ (65 ≤ zc ∧ zc ≤ 90)) → ((0 : Int) ≠ 0 ↔ wy zc = true) := fun q => by
    unfold wy
    rw [decide_eq_true_eq]
    exact ⟨fun e => absurd rfl e, fun e => absurd e q⟩
  have y1 : ((97 ≤ zc ∧ zc ≤ 122) ∨ (48 ≤ zc ∧ zc ≤ 57) ∨ (65 ≤ zc ∧ zc ≤ 90)) → ((1 : Int) ≠ 0 ↔ wy zc = true) := fun q => by
    unfold wy
    rw [decide_eq_true_eq]
    exact ⟨fun _ => q, fun _ => by decide⟩
  refine mt_ywy hS oc ?_ ?_ ?_ ?_ ?_ ?_ ?_ ?_ ?_ ?_ ?_ ?_ ?_ ?_ ?_
  all_goals intros
  all_goals rename_i g1 g2
  all_goals first
    | exact ⟨me_nil g2, 0, rfl, ⟨by decide, by decide⟩, y0 (by omega)⟩
    | exact ⟨me_nil g2, 1, rfl, ⟨by decide, by decide⟩, y1 (by omega)⟩
theorem be98 {zc : Int} {q2 : Option mi_V} (hS : ab_Sh sx_sk h) (oc : mi_in zc) (o2 : ∀ v, q2 = some v → mi_ok v) (hR : oR h x) : me_E (d + 2) 219 98 [some (.inr (.inr 109)), some (.inl zc), q2] [] h (fun w h' => w = none ∧ ab_Sh sx_sk h' ∧ ab_Fr [(14045, 14047)] h h' ∧ oR h' (x.map (fun o => (o.1, 0, 0, o.2.2.2)))) := by
  refine mt_ybH hS oc o2 ?_
  intro h1 g1 g2 g3 g4
  refine ⟨rfl, g1, g4, ?_⟩
  rcases hR with ⟨rfl, b⟩ | ⟨o, rfl, b, c1, c2, c3, c4, c5⟩
  · exact Or.inl ⟨rfl, (me_f (c := 14044) g4 hS rfl rfl).trans b⟩
  · exact Or.inr ⟨_, rfl, (me_f (c := 14044) g4 hS rfl rfl).trans b, (me_f (c := 14037) g4 hS rfl rfl).trans c1, fun k hk => by rw [me_a (k := 170) g4 hS rfl rfl]; exact c2 k hk, g2, g3, (me_f (c := 14036) g4 hS rfl rfl).trans c5⟩
theorem be22 {zc i b l : Int} (oc : mi_in zc) (i0 : 0 ≤ i) (i1 : i ≤ 100000) : ∀ (m : Nat) (zk : Int) (h : sm_H) (z : Option (List Int)), 2 * i - zk = m → 0 ≤ zk → ab_Sh sx_sk h → mi_f h 14036 = i → oR h (z.map (fun C => (C, b, l, i))) → me_E (d + 2) 219 22 [some (.inr (.inr 109)), some (.inl zc), some (.inl zk)] [] h (fun w h' => w = none ∧ ab_Sh sx_sk h' ∧ ab_Fr wr_pr h h' ∧ oR h' ((z.bind (owl (List.replicate m 32))).map (fun C => (C, 0, 0, i)))) := by
  intro m
  induction m with
  | zero =>
    intro zk h z hm k0 hS hi hR
    have ok : mi_in zk := ⟨by omega, by omega⟩
    refine mt_ybC hS oc ok ?_ (by intros; exfalso; omega) (by intros; exfalso; omega)
    intro b1 c
    refine ⟨by omega, fun h1 g1 g2 => ?_⟩
    have e := me_nil g2
    subst e
    refine (be98 g1 oc (me_oi ok) hR).imp (fun w h' hq => ⟨hq.1, hq.2.1, hq.2.2.1.wide (fun c hc => ab_swr_ok (by decide) hc), ?_⟩)
    have := hq.2.2.2
    cases z with
    | none => exact this
    | some C => exact this
  | succ m ih =>
    intro zk h z hm k0 hS hi hR
    have ok : mi_in zk := ⟨by omega, by omega⟩
    refine mt_ybC hS oc ok (by intros; exfalso; omega) ?_ ?_
    · intro b1 b2 c c'
      refine ⟨by omega, fun h1 g1 g2 => ?_⟩
      have e := me_nil g2
      subst e
      have hz : z = none := by
        rcases hR with ⟨a, -⟩ | ⟨o, -, a, -⟩
        · cases z with
          | none => rfl
          | some C => cases a
        · exact absurd a c'
      subst hz
      refine (be98 g1 oc (me_oi ok) hR).imp (fun w h' hq => ⟨hq.1, hq.2.1, hq.2.2.1.wide (fun c hc => ab_swr_ok (by decide) hc), hq.2.2.2⟩)
    · intro b1 b2 c c'
      refine ⟨by omega, fun h1 g1 g2 => ?_⟩
      have e := me_nil g2
      subst e
      refine ⟨_, me_wrx g1 ⟨by decide, by decide⟩ hR, fun w h2 hw hq => ?_⟩
      obtain ⟨rfl, q1, q2, q3⟩ := hq
      refine mt_ybD q1 oc ok ?_
      refine ⟨by omega, fun h3 r1 r2 => ?_⟩
      have e := me_nil r2
      subst e
      have hz : ∃ C, z = some C := by
        rcases hR with ⟨-, a⟩ | ⟨o, a, -⟩
        · exfalso; omega
        · cases z with
          | none => cases a
          | some C => exact ⟨C, rfl⟩
      obtain ⟨C, rfl⟩ := hz
      have e3 : ((some C).map (fun C => ((C, b, l, i) : ox))).bind (owx 32) = (ow 32 C).map (fun C => (C, b, l, i)) := by
        show owx 32 (C, b, l, i) = _
        unfold owx
        rfl
      rw [e3] at q3
      refine (ih (zk + 1) h3 (ow 32 C) (by omega) (by omega) q1 ((me_f (c := 14036) q2 g1 rfl rfl).trans hi) q3).imp (fun w h' hq => ⟨hq.1, hq.2.1, (q2.wide (fun c hc => ab_swr_ok (by decide) hc)).trans hq.2.2.1, ?_⟩)
      exact hq.2.2.2
theorem oR_len {o : ox} (hR : oR h (some o)) : mi_f h 14044 = 0 ∧ oRo h o := by
  rcases hR with ⟨a, -⟩ | ⟨o', a, b, c⟩
  · cases a
  · injection a with a
    subst a
    exact ⟨b, c⟩
theorem oR_no (hR : oR h none) : mi_f h 14044 = 1 := by
  rcases hR with ⟨-, a⟩ | ⟨o', a, -⟩
  · exact a
  · cases a
theorem me_bex {zc : Int} (hS : ab_Sh sx_sk h) (oc : mi_in zc) (i0 : 0 ≤ mi_f h 14036) (i1 : mi_f h 14036 ≤ 100000) (hR : oR h x) : me_E (d + 2) 219 0 [some (.inr (.inr 109)), some (.inl zc), none] [] h (fun w h' => w = none ∧ ab_Sh sx_sk h' ∧ ab_Fr wr_pr h h' ∧ oR h' (x.bind (ob zc))) := by
  -- from 98 on
  have f98 : ∀ (h1 : sm_H) (y : Option ox), ab_Sh sx_sk h1 → ab_Fr wr_pr h h1 → oR h1 y → y.map (fun o => ((o.1, 0, 0, o.2.2.2) : ox)) = x.bind (ob zc) → me_E (d + 2) 219 98 [some (.inr (.inr 109)), some (.inl zc), none] [] h1 (fun w h' => w = none ∧ ab_Sh sx_sk h' ∧ ab_Fr wr_pr h h' ∧ oR h' (x.bind (ob zc))) := by
    intro h1 y g1 g2 g3 g4
    refine (be98 g1 oc me_on g3).imp (fun w h' hq => ⟨hq.1, hq.2.1, g2.trans (hq.2.2.1.wide (fun c hc => ab_swr_ok (by decide) hc)), ?_⟩)
    rw [← g4]
    exact hq.2.2.2
  -- a blank is written
  have wr98 : ∀ (h1 : sm_H), h1 = h → (∀ o, x = some o → obw zc o = ow 32 o.1) → ∃ Q1, me_E (d + 1) 220 0 (mi_entry 2 [.inr (.inr 109), .inl ((32 : Int))]) [] h1 Q1 ∧ ∀ w h2, (∀ x, w = some x → mi_ok x) → Q1 w h2 → me_E (d + 2) 219 98 [some (.inr (.inr 109)), some (.inl zc), none] (mi_back w []) h2 (fun w h' => w = none ∧ ab_Sh sx_sk h' ∧ ab_Fr wr_pr h h' ∧ oR h' (x.bind (ob zc))) := by
    intro h1 e hx
    subst e
    refine ⟨_, me_wrx hS ⟨by decide, by decide⟩ hR, fun w h2 hw hq => ?_⟩
    obtain ⟨rfl, q1, q2, q3⟩ := hq
    refine f98 h2 _ q1 (q2.wide (fun c hc => ab_swr_ok (by decide) hc)) q3 ?_
    cases x with
    | none => rfl
    | some o =>
      show (owx 32 o).map _ = ob zc o
      unfold owx ob
      rw [hx o rfl]
      cases ow 32 o.1 with
      | none => rfl
      | some C => rfl
  -- nothing is written
  have no98 : (∀ o, x = some o → obw zc o = some o.1) → ∀ h1, ab_Sh sx_sk h1 → ab_Fr [] h h1 → me_E (d + 2) 219 98 [some (.inr (.inr 109)), some (.inl zc), none] [] h1 (fun w h' => w = none ∧ ab_Sh sx_sk h' ∧ ab_Fr wr_pr h h' ∧ oR h' (x.bind (ob zc))) := by
    intro hx h1 g1 g2
    have e := me_nil g2
    subst e
    refine f98 h1 x g1 ab_Fr.refl hR ?_
    cases x with
    | none => rfl
    | some o =>
      show _ = ob zc o
      unfold ob
      rw [hx o rfl]
      rfl
  -- from 54 on
  have f54 : (∀ o, x = some o → ¬ (o.1 ≠ [] ∧ o.2.2.1 ≠ 0)) → ∀ h1, ab_Sh sx_sk h1 → ab_Fr [] h h1 → me_E (d + 2) 219 54 [some (.inr (.inr 109)), some (.inl zc), none] [] h1 (fun w h' => w = none ∧ ab_Sh sx_sk h' ∧ ab_Fr wr_pr h h' ∧ oR h' (x.bind (ob zc))) := by
    intro hx h1 g1 g2
    have e := me_nil g2
    subst e
    refine mt_ybE g1 oc ?_ ?_ ?_
    · intro b c
      refine no98 (fun o ho => ?_)
      subst ho
      obtain ⟨-, c1, -⟩ := oR_len hR
      have e0 : o.1 = [] := List.length_eq_zero_iff.mp (by omega)
      unfold obw
      rw [if_neg (hx o rfl), if_neg (fun q => q.1 e0)]
    · intro b b2 c c2 h2 r1 r2
      have e := me_nil r2
      subst e
      refine wr98 _ rfl (fun o ho => ?_)
      subst ho
      obtain ⟨-, c1, -, c3, -⟩ := oR_len hR
      have e0 : o.1 ≠ [] := fun q => by rw [q] at c1; have : (([] : List Int).length : Int) = 0 := rfl; omega
      unfold obw
      rw [if_neg (hx o rfl), if_pos ⟨e0, Or.inl (by rw [← c3]; exact c2)⟩]
    · intro b b2 c c2
      refine ⟨by omega, fun h2 r1 r2 => ?_⟩
      have e := me_nil r2
      subst e
      refine ⟨_, me_wyx r1 (mi_inT _), fun w h3 hw hq => ?_⟩
      obtain ⟨rfl, z, rfl, oz, hz⟩ := hq
      have hol : ∀ o, x = some o → o.1 ≠ [] ∧ olc o.1 = mi_a h3 170 (mi_f h3 14037 - 1).toNat ∧ o.2.1 = 0 := fun o ho => by
        subst ho
        obtain ⟨-, c1, c2', c3, -⟩ := oR_len hR
        have e0 : o.1 ≠ [] := fun q => by rw [q] at c1; have : (([] : List Int).length : Int) = 0 := rfl; omega
        refine ⟨e0, ?_, by rw [← c3]; exact c2⟩
        unfold olc
        rw [List.getLast?_eq_getElem?, c2' (o.1.length - 1) (by omega), show (mi_f h3 14037 - 1).toNat = o.1.length - 1 by omega]
        rfl
      refine mt_ybF r1 oc oz ?_ ?_
      · intro c3
        refine no98 (fun o ho => ?_)
        obtain ⟨k1, k2, k3⟩ := hol o ho
        unfold obw
        rw [if_neg (hx o ho), if_neg (fun q => by
          rcases q.2 with q | q
          · exact q k3
          · rw [k2] at q
            exact (hz.mpr q.1) c3)]
      · intro c3 h4 s1 s2
        have e := me_nil s2
        subst e
        refine ⟨_, me_wyx s1 oc, fun w h5 hw5 hq => ?_⟩
        obtain ⟨rfl, z2, rfl, oz2, hz2⟩ := hq
        refine mt_ybG s1 oc oz2 ?_ ?_
        · intro c4
          refine no98 (fun o ho => ?_)
          obtain ⟨k1, k2, k3⟩ := hol o ho
          unfold obw
          rw [if_neg (hx o ho), if_neg (fun q => by
            rcases q.2 with q | q
            · exact q k3
            · exact (hz2.mpr q.2) c4)]
        · intro c4 h6 t1 t2
          have e := me_nil t2
          subst e
          refine wr98 _ rfl (fun o ho => ?_)
          obtain ⟨k1, k2, k3⟩ := hol o ho
          unfold obw
          rw [if_neg (hx o ho), if_pos ⟨k1, Or.inr ⟨by rw [k2]; exact hz.mp c3, hz2.mp c4⟩⟩]
  refine mt_ybA hS oc ?_ ?_ ?_
  · intro b c
    refine f54 (fun o ho q => ?_)
    subst ho
    obtain ⟨-, c1, -⟩ := oR_len hR
    exact q.1 (List.length_eq_zero_iff.mp (by omega))
  · intro b b2 c c2
    refine f54 (fun o ho q => ?_)
    subst ho
    obtain ⟨-, -, -, -, c4, -⟩ := oR_len hR
    exact q.2 (by rw [← c4]; exact c2)
  · intro b b2 c c2 h1 g1 g2
    have e := me_nil g2
    subst e
    refine ⟨_, me_wrx g1 ⟨by decide, by decide⟩ hR, fun w h2 hw hq => ?_⟩
    obtain ⟨rfl, q1, q2, q3⟩ := hq
    refine mt_ybB q1 oc ?_
    intro h3 r1 r2
    have e := me_nil r2
    subst e
    have f36 : mi_f h3 14036 = mi_f h1 14036 := me_f (c := 14036) q2 g1 rfl rfl
    have em : (2 * mi_f h1 14036 - 0).toNat = (2 * mi_f h1 14036).toNat := by rw [Int.sub_zero]
    have key : ∀ (z : Option (List Int)) (b l : Int), oR h3 (z.map (fun C => (C, b, l, mi_f h1 14036))) → (z.bind (owl (List.replicate (2 * mi_f h1 14036).toNat 32))).map (fun C => ((C, 0, 0, mi_f h1 14036) : ox)) = x.bind (ob zc) → me_E (d + 2) 219 22 [some (.inr (.inr 109)), some (.inl zc), some (.inl 0)] [] h3 (fun w h' => w = none ∧ ab_Sh sx_sk h' ∧ ab_Fr wr_pr h1 h' ∧ oR h' (x.bind (ob zc))) := by
      intro z b l hz he
      refine (be22 (i := mi_f h1 14036) (b := b) (l := l) oc i0 i1 (2 * mi_f h1 14036).toNat 0 h3 z (by omega) (by decide) r1 f36 hz).imp (fun w h' hq => ⟨hq.1, hq.2.1, (q2.wide (fun c hc => ab_swr_ok (by decide) hc)).trans hq.2.2.1, ?_⟩)
      rw [← he]
      exact hq.2.2.2
    cases x with
    | none => exact key none 0 0 q3 rfl
    | some o =>
      obtain ⟨-, c1, -, -, c4, c5⟩ := oR_len hR
      have e0 : o.1 ≠ [] := fun q => by rw [q] at c1; have : (([] : List Int).length : Int) = 0 := rfl; omega
      have e3 : (some o).bind (owx 10) = (ow 10 o.1).map (fun C => (C, o.2.1, o.2.2.1, mi_f h1 14036)) := by
        show owx 10 o = _
        unfold owx
        rw [c5]
      rw [e3] at q3
      refine key (ow 10 o.1) o.2.1 o.2.2.1 q3 ?_
      show _ = ob zc o
      unfold ob obw
      rw [if_pos ⟨e0, by rw [← c4]; exact c2⟩, c5]
theorem me_lyx {zs : Int} (hS : ab_Sh sx_sk h) (os : mi_in zs) (i0 : 0 ≤ mi_f h 14036) (i1 : mi_f h 14036 ≤ 100000) (hR : oR h x) : me_E d 222 0 [some (.inr (.inr 109)), some (.inl zs)] [] h (fun w h' => w = none ∧ ab_Sh sx_sk h' ∧ ab_Fr [(14036, 14037), (14045, 14047)] h h' ∧ oR h' (x.map (oly zs)) ∧ 0 ≤ mi_f h' 14036 ∧ mi_f h' 14036 ≤ mi_f h 14036 + 1) := by
  have b45 := me_fb (c := 14045) hS rfl
  have b46 := me_fb (c := 14046) hS rfl
  -- indent
  have s42 : ∀ (h1 : sm_H) (vb vl : Int), ab_Sh sx_sk h1 → ab_Fr [(14045, 14047)] h h1 → mi_f h1 14045 = vb → mi_f h1 14046 = vl → (∀ o, x = some o → vb = (if zs = 4 then 1 else o.2.1) ∧ vl = (if zs = 5 then 1 else o.2.2.1)) → me_E d 222 42 [some (.inr (.inr 109)), some (.inl zs)] [] h1 (fun w h' => w = none ∧ ab_Sh sx_sk h' ∧ ab_Fr [(14036, 14037), (14045, 14047)] h h' ∧ oR h' (x.map (oly zs)) ∧ 0 ≤ mi_f h' 14036 ∧ mi_f h' 14036 ≤ mi_f h 14036 + 1) := by
    intro h1 vb vl g1 g2 e1 e2 hx
    have f36 : mi_f h1 14036 = mi_f h 14036 := me_f (c := 14036) g2 hS rfl rfl
    have fin : ∀ (h2 : sm_H) (v : Int), ab_Sh sx_sk h2 → mi_f h2 14036 = v → ab_Fr [(14036, 14037)] h1 h2 → (∀ o, x = some o → v = if zs = 6 then o.2.2.2 + 1 else if zs = 7 ∧ 0 < o.2.2.2 then o.2.2.2 - 1 else o.2.2.2) → 0 ≤ v → v ≤ mi_f h 14036 + 1 → (none : Option mi_V) = none ∧ ab_Sh sx_sk h2 ∧ ab_Fr [(14036, 14037), (14045, 14047)] h h2 ∧ oR h2 (x.map (oly zs)) ∧ 0 ≤ mi_f h2 14036 ∧ mi_f h2 14036 ≤ mi_f h 14036 + 1 := by
      intro h2 v r1 r2 r3 hv v0 v1
      have F : ab_Fr [(14036, 14037), (14045, 14047)] h h2 := (g2.wide (fun c hc => ab_swr_ok (by decide) hc)).trans (r3.wide (fun c hc => ab_swr_ok (by decide) hc))
      refine ⟨rfl, r1, F, ?_, by omega, by omega⟩
      rcases hR with ⟨a, b⟩ | ⟨o, a, b, c1, c2, c3, c4, c5⟩
      · exact Or.inl ⟨by rw [a]; rfl, (me_f (c := 14044) F hS rfl rfl).trans b⟩
      · obtain ⟨k1, k2⟩ := hx o a
        refine Or.inr ⟨oly zs o, by rw [a]; rfl, (me_f (c := 14044) F hS rfl rfl).trans b, (me_f (c := 14037) F hS rfl rfl).trans c1, fun k hk => by rw [me_a (k := 170) F hS rfl rfl]; exact c2 k hk, ?_, ?_, ?_⟩
        · rw [me_f (c := 14045) r3 g1 rfl rfl, e1, k1]
          rfl
        · rw [me_f (c := 14046) r3 g1 rfl rfl, e2, k2]
          rfl
        · rw [r2, hv o a]
          rfl
    have ho : ∀ o, x = some o → o.2.2.2 = mi_f h 14036 := fun o a => by
      subst a
      exact (oR_len hR).2.2.2.2.2.symm
    refine mt_ylC g1 os ?_ ?_ ?_ ?_
    · intro c1 c2 h2 r1 r2 r3
      exact fin h2 _ r1 r2 r3 (fun o a => by rw [if_neg c1, if_neg (fun q => c2 q.1), ho o a, f36]) (by omega) (by omega)
    · intro b c1 c2 c3 h2 r1 r2 r3
      exact fin h2 _ r1 r2 r3 (fun o a => by rw [if_neg c1, if_neg (fun q => by have := ho o a; omega), ho o a, f36]) (by omega) (by omega)
    · intro b c1 c2 c3
      refine ⟨by omega, fun h2 r1 r2 r3 => fin h2 _ r1 r2 r3 (fun o a => ?_) (by omega) (by omega)⟩
      rw [if_neg c1, if_pos ⟨c2, by have := ho o a; omega⟩, ho o a, f36]
    · intro b c1
      refine ⟨by omega, fun h2 r1 r2 r3 => fin h2 _ r1 r2 r3 (fun o a => ?_) (by omega) (by omega)⟩
      rw [if_pos c1, ho o a, f36]
  -- lines
  have s21 : ∀ (h1 : sm_H) (vb : Int), ab_Sh sx_sk h1 → ab_Fr [(14045, 14046)] h h1 → mi_f h1 14045 = vb → (∀ o, x = some o → vb = (if zs = 4 then 1 else o.2.1)) → me_E d 222 21 [some (.inr (.inr 109)), some (.inl zs)] [] h1 (fun w h' => w = none ∧ ab_Sh sx_sk h' ∧ ab_Fr [(14036, 14037), (14045, 14047)] h h' ∧ oR h' (x.map (oly zs)) ∧ 0 ≤ mi_f h' 14036 ∧ mi_f h' 14036 ≤ mi_f h 14036 + 1) := by
    intro h1 vb g1 g2 e1 hx
    have f46 : mi_f h1 14046 = mi_f h 14046 := me_f (c := 14046) g2 hS rfl rfl
    have ho : ∀ o, x = some o → o.2.2.1 = mi_f h 14046 := fun o a => by
      subst a
      exact (oR_len hR).2.2.2.2.1.symm
    have go : ∀ (h2 : sm_H) (v : Int), ab_Sh sx_sk h2 → mi_f h2 14046 = v → ab_Fr [(14046, 14047)] h1 h2 → (∀ o, x = some o → v = if zs = 5 then 1 else o.2.2.1) → me_E d 222 42 [some (.inr (.inr 109)), some (.inl zs)] [] h2 (fun w h' => w = none ∧ ab_Sh sx_sk h' ∧ ab_Fr [(14036, 14037), (14045, 14047)] h h' ∧ oR h' (x.map (oly zs)) ∧ 0 ≤ mi_f h' 14036 ∧ mi_f h' 14036 ≤ mi_f h 14036 + 1) := fun h2 v r1 r2 r3 hv => s42 h2 vb v r1 ((g2.wide (fun c hc => ab_swr_ok (by decide) hc)).trans (r3.wide (fun c hc => ab_swr_ok (by decide) hc))) ((me_f (c := 14045) r3 g1 rfl rfl).trans e1) r2 (fun o a => ⟨hx o a, hv o a⟩)
    refine mt_ylB g1 os ?_ ?_ ?_
    · intro b c h2 r1 r2 r3
      refine go h2 1 r1 r2 r3 (fun o a => ?_)
      by_cases q : zs = 5
      · rw [if_pos q]
      · rw [if_neg q, ho o a]
        omega
    · intro b c c2 h2 r1 r2 r3
      exact go h2 0 r1 r2 r3 (fun o a => by rw [if_neg c2, ho o a]; omega)
    · intro b c c2 h2 r1 r2 r3
      exact go h2 1 r1 r2 r3 (fun o a => by rw [if_pos c2])
  have ho : ∀ o, x = some o → o.2.1 = mi_f h 14045 := fun o a => by
    subst a
    exact (oR_len hR).2.2.2.1.symm
  refine mt_ylA hS os ?_ ?_ ?_
  · intro b c h2 r1 r2 r3
    refine s21 h2 1 r1 r3 r2 (fun o a => ?_)
    by_cases q : zs = 4
    · rw [if_pos q]
    · rw [if_neg q, ho o a]
      omega
  · intro b c c2 h2 r1 r2 r3
    exact s21 h2 0 r1 r3 r2 (fun o a => by rw [if_neg c2, ho o a]; omega)
  · intro b c c2 h2 r1 r2 r3
    exact s21 h2 1 r1 r3 r2 (fun o a => by rw [if_pos c2])
end OUT
/-! the reference's letters, digits, shown, exactly -/
def ltf : Nat → Int → List Int
  | 0, _ => []
  | n + 1, v => if 0 < v then (v % 32 + 96) :: ltf n (v / 32) else []
def lts (v : Int) : List Int := ltf 7 v
def dgf (n : Int) : Nat → Int → List Int
  | 0, _ => []
  | k + 1, e => if 0 < e then (48 + n / e % 10) :: dgf n k (e / 10) else []
def dgu (n : Int) : Int := if 999 < n then 1000 else if 99 < n then 100 else if 9 < n then 10 else 1
def dgs (n : Int) : List Int := dgf n 5 (dgu n)
/-- the characters of a token: the literals, the sort, what, the value -/
def tkw (L : Nat → Int) (s w v : Int) : List Int := if s = 8 then (if 0 < L w.toNat then lts (L w.toNat) else [-(L w.toNat)]) else if s = 2 then lts v else dgs ((v - w + 10000) % 10000)
/-- a leaf is printed -/
def oev (L : Nat → Int) (s w v : Int) (o : ox) : Option ox := if s = 1 ∨ s = 2 ∨ s = 8 then otk (tkw L s w v) o else some (oly s o)
theorem lg_and31 {x : Int64} (h : 0 ≤ x.toInt) : ((x &&& (Int64.ofNat 31)).toInt32.toInt) = x.toInt % 32 := by
  have toN : ∀ {a : Int64}, 0 ≤ a.toInt → (a.toBitVec.toNat : Int) = a.toInt := fun {a} h0 => by
    have e2 : a.toBitVec.toInt = a.toInt := rfl
    have e3 := BitVec.toInt_eq_toNat_cond a.toBitVec
    have e4 := a.toBitVec.isLt
    split at e3 <;> omega
  have n1 := toN h
  have e31 : (Int64.ofNat 31).toBitVec.toNat = 31 := by decide
  have main : (x &&& (Int64.ofNat 31)).toBitVec.toNat = x.toBitVec.toNat % 32 := by
    rw [Int64.toBitVec_and, BitVec.toNat_and, e31]
    exact Nat.and_two_pow_sub_one_eq_mod _ 5
  have hz : (x &&& (Int64.ofNat 31)).toInt = x.toInt % 32 := by
    show (x &&& (Int64.ofNat 31)).toBitVec.toInt = _
    rw [BitVec.toInt_eq_toNat_of_lt (by rw [main]; omega), main]
    omega
  rw [Int64.toInt_toInt32, hz]
  exact Int.bmod_eq_of_le (by omega) (by omega)
theorem i32_add {a b : Int} (h0 : -1000000 ≤ a ∧ a ≤ 1000000) (h1 : -1000000 ≤ b ∧ b ≤ 1000000) : (Int32.ofInt a + Int32.ofInt b).toInt = a + b := by
  rw [← Int32.ofInt_add, mi_ti ⟨by omega, by omega⟩]
theorem sh_divg {z w : Int} (h0 : 0 ≤ z) (h1 : z ≤ 1000000) (w0 : 0 < w) (w1 : w ≤ 1000000) : (Int32.ofInt z / Int32.ofInt w).toInt = z / w := by
  have b1 : 0 ≤ z / w := Int.ediv_nonneg h0 (by omega)
  have b2 : z / w ≤ z := Int.ediv_le_self _ h0
  rw [Int32.toInt_div, mi_ti ⟨by omega, by omega⟩, mi_ti ⟨by omega, by omega⟩, Int.tdiv_eq_ediv_of_nonneg h0]
  exact Int.bmod_eq_of_le (by omega) (by omega)
theorem sh_modg {z : Int} (h0 : 0 ≤ z) (h1 : z ≤ 1000000) : (Int32.ofInt z - Int32.ofInt z / Int32.ofInt ((10 : Int)) * Int32.ofInt ((10 : Int))).toInt = z % 10 := by
  have e10 : (Int32.ofInt ((10 : Int))).toInt = 10 := rfl
  have ez : (Int32.ofInt z).toInt = z := mi_ti ⟨by omega, by omega⟩
  have ed := sh_divg (w := 10) h0 h1 (by decide) (by decide)
  have em : (Int32.ofInt z / Int32.ofInt ((10 : Int)) * Int32.ofInt ((10 : Int))).toInt = z / 10 * 10 := by
    rw [Int32.toInt_mul, ed, e10]
    exact Int.bmod_eq_of_le (by omega) (by omega)
  rw [Int32.toInt_sub, ez, em]
  rw [Int.bmod_eq_of_le (by omega) (by omega)]
  omega
theorem ltf_head {n : Nat} {v : Int} (h : 0 < v) : (ltf (n + 1) v).headD 0 = v % 32 + 96 := by
  unfold ltf
  rw [if_pos h]
  rfl
theorem obind {W : List Int} {c : Int} {x : Option ox} : (x.bind (owx c)).bind (owlx W) = x.bind (owlx (c :: W)) := by
  cases x with
  | none => rfl
  | some o =>
    show (owx c o).bind (owlx W) = owlx (c :: W) o
    unfold owx owlx
    show Option.bind (Option.map _ (ow c o.1)) _ = Option.map _ ((ow c o.1).bind (owl W))
    cases ow c o.1 with
    | none => rfl
    | some C => rfl
theorem onil {x : Option ox} : x.bind (owlx []) = x := by
  cases x with
  | none => rfl
  | some o => rfl
section SHX
variable {h : sm_H} {d : Nat} {x : Option ox}
theorem me_l2Cx {zw : Int64} : ∀ (n : Nat) (zv : Int64) (h : sm_H) (x : Option ox), zv.toInt < 32 ^ n → ab_Sh sx_sk h → oR h x → me_E (d + 1) 218 15 [some (.inr (.inr 109)), some (.inr (.inl zw)), none, some (.inr (.inl zv)), none] [] h (fun w h' => w = none ∧ ab_Sh sx_sk h' ∧ ab_Fr wr_pr h h' ∧ oR h' (x.bind (owlx (ltf n zv.toInt)))) := by
  intro n
  induction n with
  | zero =>
    intro zv h x hv hS hR
    have e1 : (32 : Int) ^ 0 = 1 := rfl
    refine mt_l2C hS ?_ ?_
    · intro c h1 g1 g2
      have e := me_nil g2
      subst e
      exact ⟨rfl, g1, ab_Fr.refl, by rw [show ltf 0 zv.toInt = [] from rfl, onil]; exact hR⟩
    · intro c
      have := lg_pos c
      omega
  | succ n ih =>
    intro zv h x hv hS hR
    refine mt_l2C hS ?_ ?_
    · intro c h1 g1 g2
      have e := me_nil g2
      subst e
      have c0 : ¬ 0 < zv.toInt := fun q => by
        have : (lg_cmp zv (Int64.ofNat 0)).toInt = 1 := by
          unfold lg_cmp
          rw [if_pos (by rw [gt_iff_lt, Int64.lt_iff_toInt_lt]; exact q)]
          rfl
        omega
      refine ⟨rfl, g1, ab_Fr.refl, ?_⟩
      unfold ltf
      rw [if_neg c0, onil]
      exact hR
    · intro c h1 g1 g2
      have e := me_nil g2
      subst e
      have hp := lg_pos c
      have em : zv.toInt % 32 < 32 := Int.emod_lt_of_pos _ (by decide)
      have em0 : 0 ≤ zv.toInt % 32 := Int.emod_nonneg _ (by decide)
      rw [lg_and31 (by omega), i32_add ⟨by omega, by omega⟩ ⟨by omega, by omega⟩]
      refine ⟨_, me_wrx g1 ⟨by omega, by omega⟩ hR, ?_⟩
      intro w h2 hw hq
      obtain ⟨rfl, q1, q2, q3⟩ := hq
      refine mt_l2D q1 ?_
      intro h3 r1 r2
      have e := me_nil r2
      subst e
      refine (ih _ h3 _ ?_ q1 q3).imp (fun w h' hq => ⟨hq.1, hq.2.1, (q2.wide (fun c hc => ab_swr_ok (by decide) hc)).trans hq.2.2.1, ?_⟩)
      · rw [lg_shr5]
        have : (32 : Int) ^ (n + 1) = 32 ^ n * 32 := Int.pow_succ _ _
        omega
      · have := hq.2.2.2
        rw [lg_shr5, obind] at this
        have el : ltf (n + 1) zv.toInt = (zv.toInt % 32 + 96) :: ltf n (zv.toInt / 32) := by
          rw [ltf, if_pos hp]
        rw [el]
        exact this
theorem me_letx {zw : Int64} (hS : ab_Sh sx_sk h) (i0 : 0 ≤ mi_f h 14036) (i1 : mi_f h 14036 ≤ 100000) (w0 : 0 < zw.toInt) (w1 : zw.toInt < 1073741824) (hR : oR h x) : me_E (d + 3) 218 0 [some (.inr (.inr 109)), some (.inr (.inl zw)), none, none, none] [] h (fun w h' => w = none ∧ ab_Sh sx_sk h' ∧ ab_Fr wr_pr h h' ∧ oR h' (x.bind (otk (lts zw.toInt)))) := by
  refine mt_l2A (d := d + 2) hS ?_
  intro h1 g1 g2
  have e := me_nil g2
  subst e
  have em : zw.toInt % 32 < 32 := Int.emod_lt_of_pos _ (by decide)
  have em0 : 0 ≤ zw.toInt % 32 := Int.emod_nonneg _ (by decide)
  rw [lg_and31 (by omega), i32_add ⟨by omega, by omega⟩ ⟨by omega, by omega⟩]
  refine ⟨_, me_bex g1 ⟨by omega, by omega⟩ i0 i1 hR, ?_⟩
  intro w h2 hw hq
  obtain ⟨rfl, q1, q2, q3⟩ := hq
  refine mt_l2B q1 ?_
  intro h3 r1 r2
  have e := me_nil r2
  subst e
  have e7 : (32 : Int) ^ 7 = 34359738368 := by decide
  refine (me_l2Cx 7 zw h3 _ (by omega) q1 q3).imp (fun w h' hq => ⟨hq.1, hq.2.1, q2.trans hq.2.2.1, ?_⟩)
  have := hq.2.2.2
  have eo : (x.bind (ob (zw.toInt % 32 + 96))).bind (owlx (ltf 7 zw.toInt)) = x.bind (otk (lts zw.toInt)) := by
    cases x with
    | none => rfl
    | some o =>
      show (ob (zw.toInt % 32 + 96) o).bind _ = otk (lts zw.toInt) o
      unfold otk lts
      rw [ltf_head (n := 6) w0]
  rw [eo] at this
  exact this
theorem me_shEx {zu zn zd : Int} {zv : Int64} (ou : mi_in zu) (n0 : 0 ≤ zn) (n1 : zn ≤ 9999) (od : mi_in zd) : ∀ (k : Nat) (ze : Int) (h : sm_H) (x : Option ox), 0 ≤ ze → ze ≤ 1000 → ze < 10 ^ k → ab_Sh sx_sk h → oR h x → me_E (d + 1) 217 176 [some (.inr (.inr 109)), some (.inl zu), some (.inr (.inl zv)), none, some (.inl zn), some (.inl zd), some (.inl ze)] [] h (fun w h' => w = none ∧ ab_Sh sx_sk h' ∧ ab_Fr wr_pr h h' ∧ oR h' (x.bind (owlx (dgf zn k ze)))) := by
  have on : mi_in zn := ⟨by omega, by omega⟩
  intro k
  induction k with
  | zero =>
    intro ze h x e0 e1 e2 hS hR
    have e1' : (10 : Int) ^ 0 = 1 := rfl
    refine mt_shE hS ou on od ⟨by omega, by omega⟩ ?_ (by intros; exfalso; omega)
    intro c h1 g1 g2
    have e := me_nil g2
    subst e
    exact ⟨rfl, g1, ab_Fr.refl, by rw [show dgf zn 0 ze = [] from rfl, onil]; exact hR⟩
  | succ k ih =>
    intro ze h x e0 e1 e2 hS hR
    refine mt_shE hS ou on od ⟨by omega, by omega⟩ ?_ ?_
    · intro c h1 g1 g2
      have e := me_nil g2
      subst e
      refine ⟨rfl, g1, ab_Fr.refl, ?_⟩
      rw [dgf, if_neg (by omega), onil]
      exact hR
    · intro c
      refine ⟨by omega, fun h1 g1 g2 => ?_⟩
      have e := me_nil g2
      subst e
      have b1 : 0 ≤ zn / ze := Int.ediv_nonneg n0 (by omega)
      have b2 : zn / ze ≤ zn := Int.ediv_le_self _ n0
      rw [sh_divg n0 (by omega) c (by omega), sh_modg b1 (by omega), i32_add ⟨by omega, by omega⟩ ⟨by omega, by omega⟩]
      refine ⟨_, me_wrx g1 ⟨by omega, by omega⟩ hR, ?_⟩
      intro w h2 hw hq
      obtain ⟨rfl, q1, q2, q3⟩ := hq
      refine mt_shF q1 ou on od ⟨by omega, by omega⟩ ?_
      intro h3 r1 r2
      have e := me_nil r2
      subst e
      rw [sh_div ze (by omega) (by omega)]
      have ep : (10 : Int) ^ (k + 1) = 10 ^ k * 10 := Int.pow_succ _ _
      refine (ih (ze / 10) h3 _ (by omega) (by omega) (by omega) q1 q3).imp (fun w h' hq => ⟨hq.1, hq.2.1, (q2.wide (fun c hc => ab_swr_ok (by decide) hc)).trans hq.2.2.1, ?_⟩)
      have := hq.2.2.2
      rw [obind] at this
      rw [dgf, if_pos c]
      exact this
theorem me_numx {zu zn : Int} {zv : Int64} (ou : mi_in zu) (n0 : 0 ≤ zn) (n1 : zn ≤ 9999) (hS : ab_Sh sx_sk h) (i0 : 0 ≤ mi_f h 14036) (i1 : mi_f h 14036 ≤ 100000) (hR : oR h x) : me_E (d + 3) 217 119 [some (.inr (.inr 109)), some (.inl zu), some (.inr (.inl zv)), none, some (.inl zn), none, none] [] h (fun w h' => w = none ∧ ab_Sh sx_sk h' ∧ ab_Fr wr_pr h h' ∧ oR h' (x.bind (otk (dgs zn)))) := by
  have on : mi_in zn := ⟨by omega, by omega⟩
  have go : ∀ (zd : Int), zd = dgu zn → (zd = 1 ∨ zd = 10 ∨ zd = 100 ∨ zd = 1000) → zn < 10 * zd → ∀ h1, ab_Sh sx_sk h1 → ab_Fr [] h h1 → me_E (d + 3) 217 160 [some (.inr (.inr 109)), some (.inl zu), some (.inr (.inl zv)), none, some (.inl zn), some (.inl zd), none] [] h1 (fun w h' => w = none ∧ ab_Sh sx_sk h' ∧ ab_Fr wr_pr h h' ∧ oR h' (x.bind (otk (dgs zn)))) := by
    intro zd hd hd4 hlt h1 g1 g2
    have e := me_nil g2
    subst e
    have od : mi_in zd := ⟨by omega, by omega⟩
    have b1 : 0 ≤ zn / zd := Int.ediv_nonneg n0 (by omega)
    have b2 : zn / zd < 10 := Int.ediv_lt_of_lt_mul (by omega) hlt
    refine mt_shC (d := d + 2) g1 ou on od ?_
    refine ⟨by omega, fun h2 r1 r2 => ?_⟩
    have e := me_nil r2
    subst e
    rw [sh_divg n0 (by omega) (by omega) (by omega), i32_add ⟨by omega, by omega⟩ ⟨by omega, by omega⟩]
    refine ⟨_, me_bex r1 ⟨by omega, by omega⟩ i0 i1 hR, ?_⟩
    intro w h3 hw hq
    obtain ⟨rfl, q1, q2, q3⟩ := hq
    refine mt_shD q1 ou on od ?_
    intro h4 s1 s2
    have e := me_nil s2
    subst e
    have e5 : (10 : Int) ^ 5 = 100000 := by decide
    refine (me_shEx ou n0 n1 od 5 zd h4 _ (by omega) (by omega) (by omega) q1 q3).imp (fun w h' hq => ⟨hq.1, hq.2.1, q2.trans hq.2.2.1, ?_⟩)
    have := hq.2.2.2
    have eo : (x.bind (ob (48 + zn / zd))).bind (owlx (dgf zn 5 zd)) = x.bind (otk (dgs zn)) := by
      have ehd : (dgs zn).headD 0 = 48 + zn / zd := by
        unfold dgs
        rw [← hd, dgf, if_pos (by omega)]
        show 48 + zn / zd % 10 = _
        rw [Int.emod_eq_of_lt b1 b2]
      cases x with
      | none => rfl
      | some o =>
        show (ob (48 + zn / zd) o).bind _ = otk (dgs zn) o
        unfold otk
        rw [ehd]
        unfold dgs
        rw [← hd]
    rw [eo] at this
    exact this
  refine mt_shB (d := d + 2) hS ou on ?_ ?_ ?_ ?_
  · intro c1 c2 c3
    exact go 1 (by unfold dgu; rw [if_neg (by omega), if_neg (by omega), if_neg (by omega)]) (by decide) (by omega)
  · intro c1 c2 c3
    exact go 10 (by unfold dgu; rw [if_neg (by omega), if_neg (by omega), if_pos (by omega)]) (by decide) (by omega)
  · intro c1 c2
    exact go 100 (by unfold dgu; rw [if_neg (by omega), if_pos (by omega)]) (by decide) (by omega)
  · intro c1
    exact go 1000 (by unfold dgu; rw [if_pos (by omega)]) (by decide) (by omega)
theorem sh_val {v : Int64} {w : Int} (v0 : 0 ≤ v.toInt) (v1 : v.toInt ≤ 9999) (w0 : 0 ≤ w) (w1 : w ≤ 9) : (((v - ((Int32.ofInt w).toInt64)) + (Int64.ofNat 10000)) - ((v - ((Int32.ofInt w).toInt64)) + (Int64.ofNat 10000)) / (Int64.ofNat 10000) * (Int64.ofNat 10000)).toInt32.toInt = (v.toInt - w + 10000) % 10000 := by
  have ew : ((Int32.ofInt w).toInt64).toInt = w := by rw [Int32.toInt_toInt64, mi_ti ⟨by omega, by omega⟩]
  have e4 : (Int64.ofNat 10000).toInt = 10000 := rfl
  have e1 : (v - ((Int32.ofInt w).toInt64)).toInt = v.toInt - w := by
    rw [Int64.toInt_sub, ew]
    exact Int.bmod_eq_of_le (by omega) (by omega)
  have e2 : ((v - ((Int32.ofInt w).toInt64)) + (Int64.ofNat 10000)).toInt = v.toInt - w + 10000 := by
    rw [Int64.toInt_add, e1, e4]
    exact Int.bmod_eq_of_le (by omega) (by omega)
  have e3 : (((v - ((Int32.ofInt w).toInt64)) + (Int64.ofNat 10000)) / (Int64.ofNat 10000)).toInt = (v.toInt - w + 10000) / 10000 := by
    rw [Int64.toInt_div, e2, e4, Int.tdiv_eq_ediv_of_nonneg (by omega)]
    exact Int.bmod_eq_of_le (by omega) (by omega)
  have e5 : (((v - ((Int32.ofInt w).toInt64)) + (Int64.ofNat 10000)) / (Int64.ofNat 10000) * (Int64.ofNat 10000)).toInt = (v.toInt - w + 10000) / 10000 * 10000 := by
    rw [Int64.toInt_mul, e3, e4]
    exact Int.bmod_eq_of_le (by omega) (by omega)
  have e6 : (((v - ((Int32.ofInt w).toInt64)) + (Int64.ofNat 10000)) - ((v - ((Int32.ofInt w).toInt64)) + (Int64.ofNat 10000)) / (Int64.ofNat 10000) * (Int64.ofNat 10000)).toInt = v.toInt - w + 10000 - (v.toInt - w + 10000) / 10000 * 10000 := by
    rw [Int64.toInt_sub, e2, e5]
    exact Int.bmod_eq_of_le (by omega) (by omega)
  rw [Int64.toInt_toInt32, e6, Int.bmod_eq_of_le (by omega) (by omega)]
  omega
theorem me_shownx {zu : Int} (hS : ab_Sh sx_sk h) (hu0 : 0 ≤ zu) (hu1 : zu < 60) (hs : mi_a h 119 zu.toNat = 1 ∨ mi_a h 119 zu.toNat = 2 ∨ mi_a h 119 zu.toNat = 8) (hl : mi_a h 119 zu.toNat = 8 → (0 ≤ mi_a h 120 zu.toNat ∧ mi_a h 120 zu.toNat < 20) ∧ 0 ≤ (mx_b h 118 (mi_a h 120 zu.toNat).toNat).toInt ∧ (mx_b h 118 (mi_a h 120 zu.toNat).toNat).toInt < 1073741824 ∧ 0 ≤ mi_a h 117 (mi_a h 120 zu.toNat).toNat) (hn : mi_a h 119 zu.toNat ≠ 8 → 0 ≤ mi_f h 14033 ∧ mi_f h 14033 < 100) (h1v : mi_a h 119 zu.toNat = 1 → 0 ≤ (mx_b h 162 (mi_f h 14033).toNat).toInt ∧ (mx_b h 162 (mi_f h 14033).toNat).toInt ≤ 9999 ∧ 0 ≤ mi_a h 120 zu.toNat ∧ mi_a h 120 zu.toNat ≤ 9) (h2v : mi_a h 119 zu.toNat = 2 → 0 < (mx_b h 162 (mi_f h 14033).toNat).toInt ∧ (mx_b h 162 (mi_f h 14033).toNat).toInt < 1073741824) (i0 : 0 ≤ mi_f h 14036) (i1 : mi_f h 14036 ≤ 100000) (hR : oR h x) : me_E (d + 4) 217 0 [some (.inr (.inr 109)), some (.inl zu), none, none, none, none, none] [] h (fun w h' => w = none ∧ ab_Sh sx_sk h' ∧ ab_Fr wr_sh h h' ∧ mi_f h' 14033 = (if mi_a h 119 zu.toNat = 8 then mi_f h 14033 else mi_f h 14033 + 1) ∧ oR h' (x.bind (otk (tkw (tq_L h) (mi_a h 119 zu.toNat) (mi_a h 120 zu.toNat) (mx_b h 162 (mi_f h 14033).toNat).toInt)))) := by
  have ou : mi_in zu := ⟨by omega, by omega⟩
  have hnx : mi_a h 119 zu.toNat ≠ 8 → (Int32.ofInt (mi_f h 14033) + Int32.ofInt ((1 : Int))).toInt = mi_f h 14033 + 1 := fun e => by
    have := hn e
    rw [← Int32.ofInt_add, mi_ti ⟨by omega, by omega⟩]
  refine mt_shA (d := d + 3) hS ou ?_ ?_ ?_ ?_
  · intro b c1 c2
    have hn' := hn c1
    have s1 : mi_a h 119 zu.toNat = 1 := by omega
    obtain ⟨v0, v1, w0, w1⟩ := h1v s1
    refine ⟨by omega, fun h1 g1 g2 g3 => ?_⟩
    rw [sh_val v0 v1 w0 w1]
    refine (me_numx (d := d + 1) ou (Int.emod_nonneg _ (by decide)) (by have := Int.emod_lt_of_pos ((mx_b h 162 (mi_f h 14033).toNat).toInt - mi_a h 120 zu.toNat + 10000) (show (0 : Int) < 10000 by decide); omega) g1 (by rw [me_f (c := 14036) g3 hS rfl rfl]; exact i0) (by rw [me_f (c := 14036) g3 hS rfl rfl]; exact i1) (oR_fr hR g3 hS rfl)).imp (fun w h' hq => ⟨hq.1, hq.2.1, (g3.wide (fun c hc => ab_swr_ok (by decide) hc)).trans (hq.2.2.1.wide (fun c hc => ab_swr_ok (by decide) hc)), ?_, ?_⟩)
    · rw [if_neg c1, me_f (c := 14033) hq.2.2.1 g1 rfl rfl, g2, hnx c1]
    · unfold tkw
      rw [if_neg c1, if_neg c2]
      exact hq.2.2.2
  · intro b c1 c2
    have hn' := hn c1
    obtain ⟨v0, v1⟩ := h2v c2
    refine ⟨by omega, fun h1 g1 g2 g3 => ⟨_, me_letx (d := d) g1 (by rw [me_f (c := 14036) g3 hS rfl rfl]; exact i0) (by rw [me_f (c := 14036) g3 hS rfl rfl]; exact i1) v0 v1 (oR_fr hR g3 hS rfl), ?_⟩⟩
    intro w h2 hw hq
    obtain ⟨rfl, q1, q2, q3⟩ := hq
    refine mt_shJ (d := d + 3) q1 ou ?_
    intro h3 r1 r2
    have e := me_nil r2
    subst e
    refine ⟨rfl, r1, (g3.wide (fun c hc => ab_swr_ok (by decide) hc)).trans (q2.wide (fun c hc => ab_swr_ok (by decide) hc)), ?_, ?_⟩
    · rw [if_neg c1, me_f (c := 14033) q2 g1 rfl rfl, g2, hnx c1]
    · unfold tkw
      rw [if_neg c1, if_pos c2]
      exact q3
  · intro c1 c2
    obtain ⟨hl1, hl2, hl3, hl4⟩ := hl c1
    have k0 : (mx_b h 118 (mi_a h 120 zu.toNat).toNat).toInt = 0 := tq_z.mp (lg_cmp0 c2)
    have eL : tq_L h (mi_a h 120 zu.toNat).toNat = -(mi_a h 117 (mi_a h 120 zu.toNat).toNat) := by
      unfold tq_L
      rw [if_pos k0]
    refine ⟨by omega, fun h1 g1 g2 => ?_⟩
    have e := me_nil g2
    subst e
    refine ⟨_, me_bex (d := d + 1) g1 (mi_inT _) i0 i1 hR, ?_⟩
    intro w h2 hw hq
    obtain ⟨rfl, q1, q2, q3⟩ := hq
    refine mt_shG (d := d + 3) q1 ou (mi_inT _) ?_
    refine ⟨by omega, fun h3 r1 r2 => ?_⟩
    have e := me_nil r2
    subst e
    have f117 : mi_a h3 117 (mi_a h1 120 zu.toNat).toNat = mi_a h1 117 (mi_a h1 120 zu.toNat).toNat := me_a (k := 117) q2 g1 rfl rfl
    rw [f117]
    refine ⟨_, me_wrx r1 (mi_inT _) q3, ?_⟩
    intro w h4 hw4 hq4
    obtain ⟨rfl, t1, t2, t3⟩ := hq4
    refine mt_shH (d := d + 3) t1 ou (mi_inT _) ?_
    intro h5 u1 u2
    have e := me_nil u2
    subst e
    refine ⟨rfl, u1, (q2.wide (fun c hc => ab_swr_ok (by decide) hc)).trans (t2.wide (fun c hc => ab_swr_ok (by decide) hc)), ?_, ?_⟩
    · rw [if_pos c1, me_f (c := 14033) t2 r1 rfl rfl, me_f (c := 14033) q2 g1 rfl rfl]
    · unfold tkw
      rw [if_pos c1, eL, if_neg (by omega), Int.neg_neg]
      have eo : (x.bind (ob (mi_a h1 117 (mi_a h1 120 zu.toNat).toNat))).bind (owx (mi_a h1 117 (mi_a h1 120 zu.toNat).toNat)) = x.bind (otk [mi_a h1 117 (mi_a h1 120 zu.toNat).toNat]) := by
        rw [← onil (x := (x.bind _).bind _), obind]
        cases x with
        | none => rfl
        | some o => rfl
      rw [eo] at t3
      exact t3
  · intro c1 c2
    obtain ⟨hl1, hl2, hl3, hl4⟩ := hl c1
    have k0 : (mx_b h 118 (mi_a h 120 zu.toNat).toNat).toInt ≠ 0 := fun q => gx_cmpn c2 (tq_z.mpr q)
    have eL : tq_L h (mi_a h 120 zu.toNat).toNat = (mx_b h 118 (mi_a h 120 zu.toNat).toNat).toInt := by
      unfold tq_L
      rw [if_neg k0]
    refine ⟨by omega, fun h1 g1 g2 => ?_⟩
    have e := me_nil g2
    subst e
    refine ⟨_, me_letx (d := d) g1 i0 i1 (by omega) hl3 hR, ?_⟩
    intro w h2 hw hq
    obtain ⟨rfl, q1, q2, q3⟩ := hq
    refine mt_shI (d := d + 3) q1 ou (mi_inT _) ?_
    intro h3 r1 r2
    have e := me_nil r2
    subst e
    refine ⟨rfl, r1, q2.wide (fun c hc => ab_swr_ok (by decide) hc), ?_, ?_⟩
    · rw [if_pos c1, me_f (c := 14033) q2 g1 rfl rfl]
    · unfold tkw
      rw [if_pos c1, eL, if_pos (by omega)]
      exact q3
end SHX
/-! the reference's walk that prints: what each turn does to what is printed -/
/-- a value, in the order in which the nodes were made -/
def yv (h : sm_H) (c : Int) : Int := (mx_b h 162 c.toNat).toInt
/-- what is known of a leaf -/
def yl (h : sm_H) (u c : Int) : Prop := (mi_a h 119 u.toNat = 1 → 0 ≤ yv h c ∧ yv h c ≤ 9999 ∧ 0 ≤ mi_a h 120 u.toNat ∧ mi_a h 120 u.toNat ≤ 9) ∧ (mi_a h 119 u.toNat = 2 → 0 < yv h c ∧ yv h c < 1073741824) ∧ (mi_a h 119 u.toNat = 8 → 0 ≤ (mx_b h 118 (mi_a h 120 u.toNat).toNat).toInt ∧ (mx_b h 118 (mi_a h 120 u.toNat).toNat).toInt < 1073741824 ∧ 0 ≤ mi_a h 117 (mi_a h 120 u.toNat).toNat) ∧ (mi_a h 119 u.toNat = 1 ∨ mi_a h 119 u.toNat = 2 → 0 ≤ c ∧ c < 100)
/-- what is printed of a unit by itself -/
def ye (h : sm_H) (u c : Int) (o : ox) : Option ox := if mi_a h 119 u.toNat = 9 ∨ mi_a h 119 u.toNat = 10 then some o else oev (tq_L h) (mi_a h 119 u.toNat) (mi_a h 120 u.toNat) (yv h c) o
def yo (h : sm_H) (o : ox) : Prop := ab_Sh sx_sk h ∧ mi_f h 14028 = 2 ∧ oR h (some o) ∧ 0 ≤ mi_f h 14036 ∧ mi_f h 14036 ≤ 99999 ∧ 0 ≤ mi_f h 14029 ∧ 0 ≤ mi_f h 14032 ∧ mi_f h 14032 ≤ 12 ∧ 0 ≤ mi_f h 14033 ∧ mi_f h 14033 ≤ 100
def yQ (h : sm_H) (y : Option ox) (w : Option mi_V) (h' : sm_H) : Prop := w = none ∧ ab_Sh sx_sk h' ∧ oR h' y ∧ 0 ≤ mi_f h' 14036 ∧ mi_f h' 14036 ≤ mi_f h 14036 + 1
section PRO
variable {h : sm_H} {d : Nat} {zu : Int} {o : ox}
theorem me_comeso {zk : Int} {zv : Int64} (hS : ab_Sh sx_sk h) (hm : mi_f h 14028 = 2) (ok : mi_in zk) (n0 : 0 ≤ mi_f h 14033) (n1 : mi_f h 14033 ≤ 1000) : me_E d 208 0 [some (.inr (.inr 109)), some (.inl zk), some (.inr (.inl zv)), none] [] h (fun w h' => (∃ z, w = some (.inl z)) ∧ ab_Sh sx_sk h' ∧ ab_Fr [(14033, 14034)] h h' ∧ mi_f h' 14033 = mi_f h 14033 + 1) := by
  refine mt_comes hS ok (by intros; exfalso; omega) (by intros; exfalso; omega) ?_
  intro b1 b2 c
  exact ⟨by omega, fun h1 g1 g2 g3 => ⟨⟨_, rfl⟩, g1, g3, g2⟩⟩
theorem yQ_fr {wr : List (Nat × Nat)} {h' : sm_H} {y : Option ox} (hR : oR h y) (i0 : 0 ≤ mi_f h 14036) (g1 : ab_Sh sx_sk h') (hF : ab_Fr wr h h') (hS : ab_Sh sx_sk h) (hw : (ab_in wr 14036 || ab_in wr 14037 || ab_in wr 14044 || ab_in wr 14045 || ab_in wr 14046 || ab_in wr 21760) = false) : yQ h y none h' := by
  have w1 : ab_in wr 14036 = false := by
    simp only [Bool.or_eq_false_iff] at hw
    exact hw.1.1.1.1.1
  have e := me_f (c := 14036) hF hS rfl w1
  exact ⟨rfl, g1, oR_fr hR hF hS hw, by omega, by omega⟩
/-- passed is put to no again -/
theorem oR_0 {h' : sm_H} {wr : List (Nat × Nat)} (hR : oR h (some o)) (h44 : mi_f h' 14044 = 0) (hF : ab_Fr wr h h') (hS : ab_Sh sx_sk h) (hw : (ab_in wr 14036 || ab_in wr 14037 || ab_in wr 14045 || ab_in wr 14046 || ab_in wr 21760) = false) : oR h' (some o) := by
  simp only [Bool.or_eq_false_iff] at hw
  obtain ⟨⟨⟨⟨w1, w2⟩, w4⟩, w5⟩, w6⟩ := hw
  obtain ⟨-, c1, c2, c3, c4, c5⟩ := oR_len hR
  exact Or.inr ⟨o, rfl, h44, (me_f (c := 14037) hF hS rfl w2).trans c1, fun k hk => by rw [me_a (k := 170) hF hS rfl w6]; exact c2 k hk, (me_f (c := 14045) hF hS rfl w4).trans c3, (me_f (c := 14046) hF hS rfl w5).trans c4, (me_f (c := 14036) hF hS rfl w1).trans c5⟩
theorem me_entero {zr : Int} (hi : yo h o) (ht : mi_f h 14029 ≤ 2990) (r0 : 0 ≤ zr) (r1 : zr < 10) : me_E (d + 2) 207 0 [some (.inr (.inr 109)), some (.inl zr)] [] h (yQ h (some o)) := by
  obtain ⟨hS, hm, hR, i0, i1, t0, u0, u1, n0, n1⟩ := hi
  have ok : mi_in zr := ⟨by omega, by omega⟩
  have go : ∀ h1, ab_Sh sx_sk h1 → mi_f h1 14035 = (Int32.ofInt (mi_f h 14035) - Int32.ofInt ((1 : Int))).toInt → mi_f h1 14044 = ((0 : Int)) → ab_Fr [(14035, 14036), (14044, 14045)] h h1 → ∃ Q1, me_E (d + 1) 208 0 (mi_entry 4 [.inr (.inr 109), .inl ((1 : Int)), .inr (.inl ((Int32.ofInt zr).toInt64))]) [] h1 Q1 ∧ ∀ w h2, (∀ x, w = some x → mi_ok x) → Q1 w h2 → me_E (d + 2) 207 51 [some (.inr (.inr 109)), some (.inl zr)] (mi_back w []) h2 (yQ h (some o)) := by
    intro h1 g1 g2 g3 g4
    refine ⟨_, me_comeso g1 ((me_f (c := 14028) g4 hS rfl rfl).trans hm) ⟨by decide, by decide⟩ (by rw [me_f (c := 14033) g4 hS rfl rfl]; exact n0) (by rw [me_f (c := 14033) g4 hS rfl rfl]; omega), fun w h2 hw hq => ?_⟩
    obtain ⟨⟨z, rfl⟩, q1, q2, q3⟩ := hq
    have e29 : mi_f h2 14029 = mi_f h 14029 := (me_f (c := 14029) q2 g1 rfl rfl).trans (me_f (c := 14029) g4 hS rfl rfl)
    have e32 : mi_f h2 14032 = mi_f h 14032 := (me_f (c := 14032) q2 g1 rfl rfl).trans (me_f (c := 14032) g4 hS rfl rfl)
    have e36 : mi_f h2 14036 = mi_f h 14036 := (me_f (c := 14036) q2 g1 rfl rfl).trans (me_f (c := 14036) g4 hS rfl rfl)
    refine mt_enB q1 ok (hw _ rfl) ?_
    intro b1 b2
    refine ⟨by omega, fun h3 s1 s2 s3 s4 s5 s6 s7 s8 => ?_⟩
    have R1 : oR h1 (some o) := oR_0 hR g3 g4 hS rfl
    have R2 : oR h2 (some o) := oR_fr R1 q2 g1 rfl
    have := yQ_fr R2 (by omega) s1 s8 q1 rfl
    exact ⟨this.1, this.2.1, this.2.2.1, this.2.2.2.1, by have := this.2.2.2.2; omega⟩
  refine mt_enA hS ok ?_ ?_ (by intros; exfalso; omega)
  · intro b c
    exact go
  · intro b b2 c c2
    exact go
theorem me_singleo (hi : yo h o) (hu : wk_us h zu) (hl : yl h zu (mi_f h 14033)) (ht : mi_f h 14029 ≤ 2990) : me_E (d + 5) 213 0 [some (.inr (.inr 109)), some (.inl zu)] [] h (yQ h (ye h zu (mi_f h 14033) o)) := by
  obtain ⟨hS, hm, hR, i0, i1, t0, u0, u1, n0, n1⟩ := id hi
  have hu0 := hu.1
  have hu1 := hu.2.1
  have ok : mi_in zu := ⟨by omega, by omega⟩
  -- a token
  have tk : (mi_a h 119 zu.toNat = 1 ∨ mi_a h 119 zu.toNat = 2 ∨ mi_a h 119 zu.toNat = 8) → ∀ h1, ab_Sh sx_sk h1 → ab_Fr [] h h1 → ∃ Q1, me_E (d + 4) 217 0 (mi_entry 7 [.inr (.inr 109), .inl zu]) [] h1 Q1 ∧ ∀ w h2, (∀ x, w = some x → mi_ok x) → Q1 w h2 → me_E (d + 5) 213 129 [some (.inr (.inr 109)), some (.inl zu)] (mi_back w []) h2 (yQ h (ye h zu (mi_f h 14033) o)) := by
    intro hs h1 g1 g2
    have e := me_nil g2
    subst e
    refine ⟨_, me_shownx (d := d) g1 hu0 hu1 hs (fun q => ⟨hu.2.2.2 q, hl.2.2.1 q⟩) (fun q => hl.2.2.2 (by omega)) hl.1 hl.2.1 i0 (by omega) hR, fun w h2 hw hq => ?_⟩
    obtain ⟨rfl, q1, q2, -, q3⟩ := hq
    refine mt_sr129 q1 ok ?_
    intro h3 r1 r2
    have e := me_nil r2
    subst e
    have e36 : mi_f h3 14036 = mi_f h1 14036 := me_f (c := 14036) q2 g1 rfl rfl
    refine ⟨rfl, r1, ?_, by omega, by omega⟩
    unfold ye
    rw [if_neg (by omega)]
    unfold oev
    rw [if_pos hs]
    exact q3
  -- no token
  have ly : mi_a h 119 zu.toNat ≠ 1 → mi_a h 119 zu.toNat ≠ 2 → mi_a h 119 zu.toNat ≠ 8 → mi_a h 119 zu.toNat ≠ 9 → mi_a h 119 zu.toNat ≠ 10 → ∀ h1, ab_Sh sx_sk h1 → ab_Fr [] h h1 → ∃ Q1, me_E (d + 4) 222 0 (mi_entry 2 [.inr (.inr 109), .inl (mi_a h 119 zu.toNat)]) [] h1 Q1 ∧ ∀ w h2, (∀ x, w = some x → mi_ok x) → Q1 w h2 → me_E (d + 5) 213 142 [some (.inr (.inr 109)), some (.inl zu)] (mi_back w []) h2 (yQ h (ye h zu (mi_f h 14033) o)) := by
    intro s1 s2 s8 s9 s10 h1 g1 g2
    have e := me_nil g2
    subst e
    refine ⟨_, me_lyx (d := d + 4) g1 (mi_inT _) i0 (by omega) hR, fun w h2 hw hq => ?_⟩
    obtain ⟨rfl, q1, q2, q3, q4, q5⟩ := hq
    refine mt_sr142 q1 ok ?_
    intro h3 r1 r2
    have e := me_nil r2
    subst e
    refine ⟨rfl, r1, ?_, q4, q5⟩
    unfold ye
    rw [if_neg (by omega)]
    unfold oev
    rw [if_neg (by omega)]
    exact q3
  have l16 : (mi_a h 119 zu.toNat < 1 ∨ 10 < mi_a h 119 zu.toNat) ∨ (3 ≤ mi_a h 119 zu.toNat ∧ mi_a h 119 zu.toNat ≤ 7) → _ := fun q => ly (by omega) (by omega) (by omega) (by omega) (by omega)
  refine mt_sg hS ok ?_ (by intros; exfalso; omega) (by intros; exfalso; omega) ?_ (by intros; exfalso; omega) (by intros; exfalso; omega) ?_ ?_ ?_ ?_ ?_ ?_ (by intros; exfalso; omega) (by intros; exfalso; omega) ?_ ?_ ?_
  · intro b c1 c2 c3
    exact ⟨by omega, tk (by omega)⟩
  · intro b c1 c2 c3
    exact ⟨by omega, tk (by omega)⟩
  · intro c1
    exact ⟨by omega, ly (by omega) (by omega) (by omega) (by omega) (by omega)⟩
  · intro c1
    exact ⟨by omega, ly (by omega) (by omega) (by omega) (by omega) (by omega)⟩
  · intro c1
    exact ⟨by omega, ly (by omega) (by omega) (by omega) (by omega) (by omega)⟩
  · intro c1
    exact ⟨by omega, ly (by omega) (by omega) (by omega) (by omega) (by omega)⟩
  · intro c1
    exact ⟨by omega, ly (by omega) (by omega) (by omega) (by omega) (by omega)⟩
  · intro b c1 c2 c3
    exact ⟨by omega, tk (by omega)⟩
  · intro c1
    obtain ⟨x1, x2, x3, x4⟩ := hu.2.2.1 (by omega)
    refine ⟨by omega, fun h1 g1 g2 => ?_⟩
    have e := me_nil g2
    subst e
    refine ⟨_, me_entero (d := d + 2) hi ht x3 x4, fun w h2 hw hq => ?_⟩
    have e := hq.1
    subst e
    refine mt_sr75 hq.2.1 ok ?_
    intro h3 r1 r2
    have e := me_nil r2
    subst e
    unfold ye
    rw [if_pos (by omega)]
    exact hq
  · intro b c1
    refine ⟨by omega, fun h1 g1 g2 a5 a6 a7 g3 => ?_⟩
    unfold ye
    rw [if_pos (by omega)]
    exact yQ_fr hR i0 g1 g3 hS rfl
  · intro c1
    exact ⟨by omega, ly (by omega) (by omega) (by omega) (by omega) (by omega)⟩
/-- what is looked at does not change -/
theorem ye_fr {wr : List (Nat × Nat)} {h' : sm_H} {u c : Int} {y : ox} (hF : ab_Fr wr h h') (hS : ab_Sh sx_sk h) (w1 : ab_in wr 15232 = false) (w2 : ab_in wr 15360 = false) (w3 : ab_in wr 20736 = false) (w4 : ab_in wr 14976 = false) (w5 : ab_in wr 15104 = false) : ye h' u c y = ye h u c y ∧ (yl h u c → yl h' u c) := by
  have e1 : ∀ i, mi_a h' 119 i = mi_a h 119 i := fun i => me_a (k := 119) hF hS rfl w1
  have e2 : ∀ i, mi_a h' 120 i = mi_a h 120 i := fun i => me_a (k := 120) hF hS rfl w2
  have e3 : ∀ i, mx_b h' 162 i = mx_b h 162 i := fun i => me_b (k := 162) hF hS rfl w3
  have e4 : ∀ i, mi_a h' 117 i = mi_a h 117 i := fun i => me_a (k := 117) hF hS rfl w4
  have e5 : ∀ i, mx_b h' 118 i = mx_b h 118 i := fun i => me_b (k := 118) hF hS rfl w5
  have eL : tq_L h' = tq_L h := funext fun k => by unfold tq_L; rw [e5, e4]
  refine ⟨?_, fun q => ?_⟩
  · unfold ye yv
    rw [e1, e2, e3, eL]
  · unfold yl yv at q ⊢
    rw [e1, e2, e3, e5, e4]
    exact q
theorem me_againo {za : Int} (hi : yo h o) (hu : wk_us h zu) (oa : mi_in za) (hl : 0 < za → yl h zu (mi_f h 14033)) (ht : mi_f h 14029 ≤ 2985) : me_E (d + 6) 227 0 [some (.inr (.inr 109)), some (.inl zu), some (.inl za), none] [] h (yQ h (if 0 < za then ye h zu (mi_f h 14033) o else some o)) := by
  obtain ⟨hS, hm, hR, i0, i1, t0, u0, u1, n0, n1⟩ := id hi
  have ok : mi_in zu := ⟨by have := hu.1; omega, by have := hu.2.1; omega⟩
  have oa0 := oa.1
  have oa1 := oa.2
  refine mt_agA hS ok oa ?_ ?_ (by intros; exfalso; omega)
  · intro b c1 c2 h1 g1 g2
    rw [if_neg (by omega)]
    exact yQ_fr hR i0 g1 g2 hS rfl
  · intro b b2 c1 c2
    refine ⟨by omega, fun h1 g1 g2 a5 a6 a7 g3 => ?_⟩
    rw [if_pos c2]
    have hg : wk_gc (mi_a h) (mi_a h1) := wk_gc_fr g3 hS rfl
    have hu1' : wk_us h1 zu := by
      unfold wk_us
      rw [hg 119 (by decide), hg 120 (by decide), hg 115 (by decide)]
      exact hu
    obtain ⟨k1, k2⟩ := ye_fr (u := zu) (c := mi_f h 14033) (y := o) g3 hS rfl rfl rfl rfl rfl
    have f33 : mi_f h1 14033 = mi_f h 14033 := me_f (c := 14033) g3 hS rfl rfl
    have f36 : mi_f h1 14036 = mi_f h 14036 := me_f (c := 14036) g3 hS rfl rfl
    have f32 : mi_f h1 14032 = mi_f h 14032 := me_f (c := 14032) g3 hS rfl rfl
    refine ⟨_, me_singleo (d := d) (o := o) ⟨g1, (me_f (c := 14028) g3 hS rfl rfl).trans hm, oR_fr hR g3 hS rfl, by omega, by omega, by omega, by omega, by omega, by omega, by omega⟩ hu1' (by rw [f33]; exact k2 (hl c2)) (by omega), fun w h2 hw hq => ?_⟩
    rw [f33, k1] at hq
    have e := hq.1
    subst e
    refine mt_agC hq.2.1 ok oa ⟨by decide, by decide⟩ ?_
    intro h3 r1 r2
    have e := me_nil r2
    subst e
    exact ⟨rfl, r1, hq.2.2.1, hq.2.2.2.1, by have := hq.2.2.2.2; omega⟩
theorem lg_i32 {x : Int64} (h0 : 0 ≤ x.toInt) (h1 : x.toInt ≤ 1000000) : x.toInt32.toInt = x.toInt := by
  rw [Int64.toInt_toInt32]
  exact Int.bmod_eq_of_le (by omega) (by omega)
/-- what is printed of a unit -/
def yu (h : sm_H) (u c : Int) (o : ox) : Option ox := if mi_a h 122 u.toNat = 1 then some o else if mi_a h 122 u.toNat = 2 then (if 0 < yv h c then ye h u (c + 1) o else some o) else ye h u c o
theorem me_unito {zo : Int} (hi : yo h o) (hu : wk_us h zu) (ht : mi_f h 14029 ≤ 2985) (hz : zo = 0 ∨ zo = 1) (hp : zo = 1 → 0 ≤ mi_f h 14030 ∧ mi_f h 14030 < 64) (hv : (mi_a h 122 zu.toNat = 1 ∨ mi_a h 122 zu.toNat = 2) → (0 ≤ yv h (mi_f h 14033) ∧ yv h (mi_f h 14033) ≤ 1000000) ∧ mi_f h 14033 < 100) (hl1 : mi_a h 122 zu.toNat = 2 → 0 < yv h (mi_f h 14033) → yl h zu (mi_f h 14033 + 1)) (hl0 : mi_a h 122 zu.toNat ≠ 1 → mi_a h 122 zu.toNat ≠ 2 → yl h zu (mi_f h 14033)) : me_E (d + 6) 210 0 [some (.inr (.inr 109)), some (.inl zu), some (.inl zo), none, none] [] h (yQ h (yu h zu (mi_f h 14033) o)) := by
  obtain ⟨hS0, hm0, hR0, -, -, -, -, -, -, -⟩ := id hi
  have hu0 := hu.1
  have hu1 := hu.2.1
  have ok : mi_in zu := ⟨by omega, by omega⟩
  have oo : mi_in zo := ⟨by omega, by omega⟩
  -- from 24 on
  have go24 : ∀ h1, ab_Sh sx_sk h1 → ab_Fr [(14030, 14031), (21504, 21505)] h h1 → me_E (d + 6) 210 24 [some (.inr (.inr 109)), some (.inl zu), some (.inl zo), none, none] [] h1 (yQ h (yu h zu (mi_f h 14033) o)) := by
    intro h1 hS g2
    have hg : wk_gc (mi_a h) (mi_a h1) := wk_gc_fr g2 hS0 rfl
    have hus : wk_us h1 zu := by
      unfold wk_us
      rw [hg 119 (by decide), hg 120 (by decide), hg 115 (by decide)]
      exact hu
    have f33 : mi_f h1 14033 = mi_f h 14033 := me_f (c := 14033) g2 hS0 rfl rfl
    have f36 : mi_f h1 14036 = mi_f h 14036 := me_f (c := 14036) g2 hS0 rfl rfl
    have f32 : mi_f h1 14032 = mi_f h 14032 := me_f (c := 14032) g2 hS0 rfl rfl
    have f29 : mi_f h1 14029 = mi_f h 14029 := me_f (c := 14029) g2 hS0 rfl rfl
    have hm : mi_f h1 14028 = 2 := (me_f (c := 14028) g2 hS0 rfl rfl).trans hm0
    have hR : oR h1 (some o) := oR_fr hR0 g2 hS0 rfl
    obtain ⟨-, -, -, i0, i1, t0, u0, u1, n0, n1⟩ := id hi
    have e122 : mi_a h1 122 zu.toNat = mi_a h 122 zu.toNat := hg 122 (by decide) _
    have ev : mx_b h1 162 (mi_f h1 14033).toNat = mx_b h 162 (mi_f h 14033).toNat := by rw [f33]; exact me_b (k := 162) g2 hS0 rfl rfl
    have fin : ∀ {y : Option ox} {w : Option mi_V} {h' : sm_H}, yQ h1 y w h' → yQ h y w h' := fun q => ⟨q.1, q.2.1, q.2.2.1, q.2.2.2.1, by have := q.2.2.2.2; omega⟩
    refine mt_unB hS ok oo ?_ (by intros; exfalso; omega) ?_ (by intros; exfalso; omega) (by intros; exfalso; omega) (by intros; exfalso; omega) ?_ (by intros; exfalso; omega) (by intros; exfalso; omega)
    · intro c1 c2
      refine ⟨by omega, fun h2 r1 r2 => ?_⟩
      have e := me_nil r2
      subst e
      obtain ⟨k1, k2⟩ := ye_fr (u := zu) (c := mi_f h 14033) (y := o) g2 hS0 rfl rfl rfl rfl rfl
      refine ⟨_, me_singleo (d := d) (o := o) ⟨r1, hm, hR, by omega, by omega, by omega, by omega, by omega, by omega, by omega⟩ hus (by rw [f33]; exact k2 (hl0 (by rw [← e122]; exact c1) (by rw [← e122]; exact c2))) (by omega), fun w h3 hw hq => ?_⟩
      rw [f33, k1] at hq
      have e := hq.1
      subst e
      refine mt_unK hq.2.1 ok oo ?_
      intro h4 s1 s2
      have e := me_nil s2
      subst e
      unfold yu
      rw [if_neg (by rw [← e122]; exact c1), if_neg (by rw [← e122]; exact c2)]
      exact fin hq
    · intro b b2 c1 c2 c3 c4
      rw [e122] at c1 c2
      obtain ⟨⟨v0, v1⟩, n2⟩ := hv (Or.inr c2)
      refine ⟨by omega, fun h2 r1 r2 => ?_⟩
      have e := me_nil r2
      subst e
      rw [ev, lg_i32 v0 v1]
      have on : mi_in (mx_b h 162 (mi_f h 14033).toNat).toInt := ⟨by unfold yv at v0 v1; omega, by unfold yv at v0 v1; omega⟩
      refine mt_unH r1 ok oo on ?_
      intro h3 s1 s2
      have e := me_nil s2
      subst e
      refine ⟨_, me_comeso (d := d + 5) s1 hm ⟨by decide, by decide⟩ (by omega) (by omega), fun w h4 hw hq => ?_⟩
      obtain ⟨⟨z, rfl⟩, q1, q2, q3⟩ := hq
      have e29 : mi_f h4 14029 = mi_f h 14029 := (me_f (c := 14029) q2 s1 rfl rfl).trans f29
      have R4 : oR h4 (some o) := oR_fr hR q2 s1 rfl
      have e36 : mi_f h4 14036 = mi_f h 14036 := (me_f (c := 14036) q2 s1 rfl rfl).trans f36
      have e44 := (oR_len R4).1
      refine mt_unI q1 ok oo on (hw _ rfl) ?_ (by intros; exfalso; omega) ?_
      · intro b3 c5
        refine ⟨by omega, fun h5 t1 t2 t3 a5 a6 a7 t4 => ?_⟩
        unfold yu yv
        rw [if_neg c1, if_pos c2, if_neg (by omega)]
        have := yQ_fr R4 (by omega) t1 t4 q1 rfl
        exact ⟨this.1, this.2.1, this.2.2.1, this.2.2.2.1, by have := this.2.2.2.2; omega⟩
      · intro b3 b4 c5 c6
        refine ⟨by omega, fun h5 t1 t2 t3 a5 a6 a7 t4 => ?_⟩
        have F5 : ab_Fr [(14029, 14030), (14030, 14032), (14033, 14034), (21120, 21121), (21248, 21249), (21376, 21377), (21504, 21505)] h h5 := ((g2.wide (fun c hc => ab_swr_ok (by decide) hc)).trans (q2.wide (fun c hc => ab_swr_ok (by decide) hc))).trans (t4.wide (fun c hc => ab_swr_ok (by decide) hc))
        have hg5 : wk_gc (mi_a h) (mi_a h5) := wk_gc_fr F5 hS0 rfl
        have hus5 : wk_us h5 zu := by
          unfold wk_us
          rw [hg5 119 (by decide), hg5 120 (by decide), hg5 115 (by decide)]
          exact hu
        obtain ⟨k1, k2⟩ := ye_fr (u := zu) (c := mi_f h 14033 + 1) (y := o) F5 hS0 rfl rfl rfl rfl rfl
        have e33 : mi_f h5 14033 = mi_f h 14033 + 1 := by rw [me_f (c := 14033) t4 q1 rfl rfl, q3, f33]
        have g36 : mi_f h5 14036 = mi_f h 14036 := me_f (c := 14036) F5 hS0 rfl rfl
        have g32 : mi_f h5 14032 = mi_f h 14032 := me_f (c := 14032) F5 hS0 rfl rfl
        refine ⟨_, me_singleo (d := d) (o := o) ⟨t1, (me_f (c := 14028) F5 hS0 rfl rfl).trans hm0, oR_fr R4 t4 q1 rfl, by omega, by omega, by omega, by omega, by omega, by omega, by omega⟩ hus5 (by rw [e33]; exact k2 (hl1 c2 c5)) (by omega), fun w h6 hw6 hq => ?_⟩
        rw [e33, k1] at hq
        have e := hq.1
        subst e
        refine mt_unJ hq.2.1 ok oo on ?_
        intro h7 l1 l2
        have e := me_nil l2
        subst e
        unfold yu yv
        rw [if_neg c1, if_pos c2, if_pos c5]
        exact ⟨rfl, l1, hq.2.2.1, hq.2.2.2.1, by have := hq.2.2.2.2; omega⟩
    · intro b b2 c1 c3 c4
      rw [e122] at c1
      obtain ⟨⟨v0, v1⟩, n2⟩ := hv (Or.inl c1)
      refine ⟨by omega, fun h2 r1 r2 => ?_⟩
      have e := me_nil r2
      subst e
      rw [ev, lg_i32 v0 v1]
      have on : mi_in (mx_b h 162 (mi_f h 14033).toNat).toInt := ⟨by unfold yv at v0 v1; omega, by unfold yv at v0 v1; omega⟩
      refine mt_unD r1 ok oo on ?_
      intro h3 s1 s2
      have e := me_nil s2
      subst e
      refine ⟨_, me_comeso (d := d + 5) s1 hm ⟨by decide, by decide⟩ (by omega) (by omega), fun w h4 hw hq => ?_⟩
      obtain ⟨⟨z, rfl⟩, q1, q2, q3⟩ := hq
      have e29 : mi_f h4 14029 = mi_f h 14029 := (me_f (c := 14029) q2 s1 rfl rfl).trans f29
      have R4 : oR h4 (some o) := oR_fr hR q2 s1 rfl
      have e36 : mi_f h4 14036 = mi_f h 14036 := (me_f (c := 14036) q2 s1 rfl rfl).trans f36
      have e28 : mi_f h4 14028 = 2 := (me_f (c := 14028) q2 s1 rfl rfl).trans hm
      refine mt_unE q1 ok oo on (hw _ rfl) ?_ (by intros; exfalso; omega)
      intro b3 b4 c5
      refine ⟨by omega, fun h5 t1 t2 t3 a5 a6 a7 t4 => ?_⟩
      unfold yu
      rw [if_pos c1]
      have := yQ_fr R4 (by omega) t1 t4 q1 rfl
      exact ⟨this.1, this.2.1, this.2.2.1, this.2.2.2.1, by have := this.2.2.2.2; omega⟩
  refine mt_unA hS0 ok oo ?_ ?_
  · intro c h1 g1 g2
    exact go24 h1 g1 (g2.wide (fun c hc => by cases hc))
  · intro b b2 c
    have := hp (by omega)
    exact ⟨by omega, fun h1 g1 g2 a8 g3 => go24 h1 g1 g3⟩
end PRO
/-! the reference's walk that prints: choose; the replay's turns as the traces have them; what the leaves print -/
section PRC
variable {h : sm_H} {d : Nat} {zf : Int} {o : ox}
theorem me_chooseo {U : Int} (hi : yo h o) (hf0 : 0 ≤ zf) (hf1 : zf < 80) (hf : wk_fa (mi_a h) zf) (hC : wk_C (mi_a h) U) (hfi : ∀ j : Nat, (j : Int) < mi_a h 130 zf.toNat → mi_a h 126 (wk_alt (mi_a h) j (mi_a h 129 zf.toNat)).toNat < 0 ∨ mi_a h 126 (wk_alt (mi_a h) j (mi_a h 129 zf.toNat)).toNat < U) (hlen : ∀ j : Nat, (j : Int) < mi_a h 130 zf.toNat → ((wk_it (mi_a h) 61 (mi_a h 126 (wk_alt (mi_a h) j (mi_a h 129 zf.toNat)).toNat)).length : Int) + mi_f h 14029 + 1 ≤ 2999) (hv : 1 < mi_a h 130 zf.toNat → 0 ≤ yv h (mi_f h 14033) ∧ yv h (mi_f h 14033) < mi_a h 130 zf.toNat ∧ mi_f h 14033 < 100) : me_E (d + 6) 223 0 [some (.inr (.inr 109)), some (.inl zf), none, none, none, none] [] h (yQ h (some o)) := by
  obtain ⟨hS, hm, hR, i0, i1, t0, u0, u1, n0, n1⟩ := id hi
  have of : mi_in zf := ⟨by omega, by omega⟩
  have b130 := me_ab (k := 130) (i := zf.toNat) hS rfl (by decide) (by clear hlen hfi; omega)
  refine mt_chA hS of ?_ ?_ ?_ ?_ ?_
  · intro c1
    have h1c : (1 : Int) ≤ mi_a h 130 zf.toNat := hf.1
    have h0l : ((0 : Nat) : Int) < mi_a h 130 zf.toNat := by clear hlen hfi; omega
    have hl0 := hlen 0 h0l
    have ha0 := hf.2.2 0 h0l
    have hf0' := hfi 0 h0l
    refine ⟨by clear hlen hfi; omega, fun h1 g1 g2 => ?_⟩
    have e1 := me_nil g2
    subst e1
    refine (ch146 (U := U) g1 of ⟨by decide, by decide⟩ (fun v hv => by cases hv) hC ha0.1 ha0.2 hf0' t0 (by
      clear hlen hfi
      omega)).imp (fun w h' hq => ?_)
    obtain ⟨p1, p2, p3, p4, p5⟩ := hq
    subst p1
    exact yQ_fr hR i0 p2 p3 g1 rfl
  · intro b1 b2 c1 c2 c3 c4
    exact absurd hm c3
  · intro b1 b2 c1 c2 c3 c4
    exact absurd hm c3
  · intro b1 b2 c1 c2 c3
    obtain ⟨v0, v1, n2⟩ := hv c1
    refine ⟨by clear hlen hfi; omega, fun h1 g1 g2 => ?_⟩
    have e1 := me_nil g2
    subst e1
    have v0 : 0 ≤ (mx_b h1 162 (mi_f h1 14033).toNat).toInt := v0
    have v1 : (mx_b h1 162 (mi_f h1 14033).toNat).toInt < mi_a h1 130 zf.toNat := v1
    rw [lg_i32 v0 (by clear hlen hfi; omega)]
    obtain ⟨j, hj⟩ : ∃ j : Nat, (mx_b h1 162 (mi_f h1 14033).toNat).toInt = (j : Int) := ⟨_, (Int.toNat_of_nonneg v0).symm⟩
    rw [hj] at v0 v1 ⊢
    have oz : mi_in (j : Int) := ⟨by clear hlen hfi; omega, by clear hlen hfi; omega⟩
    refine mt_chD g1 of ⟨by decide, by decide⟩ (mi_inT _) oz ?_ (by intros; exfalso; clear hlen hfi; omega)
    intro c h2' r1 r2
    have e2 := me_nil r2
    subst e2
    refine mt_chD2 r1 of oz (mi_inT _) ?_
    intro h3 s1' s2
    have e3 := me_nil s2
    subst e3
    refine ⟨_, me_comeso (d := d + 5) s1' hm ⟨by decide, by decide⟩ n0 (by clear hlen hfi; omega), ?_⟩
    intro w h4 hw hq
    obtain ⟨⟨z, rfl⟩, q1, q2, q3⟩ := hq
    have n29 : mi_f h4 14029 = mi_f h3 14029 := me_f (c := 14029) q2 s1' rfl rfl
    have n36 : mi_f h4 14036 = mi_f h3 14036 := me_f (c := 14036) q2 s1' rfl rfl
    have R4 : oR h4 (some o) := oR_fr hR q2 s1' rfl
    have hlj := hlen j v1
    refine mt_chE q1 of oz (mi_inT _) (hw _ rfl) ?_
    intro b1
    refine ⟨by clear hlen hfi; omega, fun h5 t1 t2 t3 a5 a6 a7 t4 => ?_⟩
    have R5 : oR h5 (some o) := oR_fr R4 t4 q1 rfl
    have e36 : mi_f h5 14036 = mi_f h3 14036 := (me_f (c := 14036) t4 q1 rfl rfl).trans n36
    have F5 : ab_Fr wr_W1 h3 h5 := (q2.wide (fun c hc => ab_swr_ok (by decide) hc)).trans (t4.wide (fun c hc => ab_swr_ok (by decide) hc))
    have hg : wk_gc (mi_a h3) (mi_a h5) := wk_gc_fr F5 s1' rfl
    have hC5 : wk_C (mi_a h5) U := by
      refine ⟨hC.1, fun u u0 u1 => ?_⟩
      rw [hg 124 (by decide), hg 125 (by decide), hg 124 (by decide)]
      exact hC.2 u u0 u1
    have hf5 : wk_fa (mi_a h5) zf := by
      unfold wk_fa
      rw [hg 130 (by decide), hg 129 (by decide), wk_alt_g hg]
      refine ⟨hf.1, hf.2.1, fun j hj => ?_⟩
      rw [wk_alt_g hg]
      exact hf.2.2 j hj
    have ea : wk_alt (mi_a h5) j (mi_a h5 129 zf.toNat) = wk_alt (mi_a h3) j (mi_a h3 129 zf.toNat) := by rw [wk_alt_g hg, hg 129 (by decide)]
    have haj := hf.2.2 j v1
    have hfj := hfi j v1
    generalize hA : wk_alt (mi_a h3) j (mi_a h3 129 zf.toNat) = A at ea haj hfj hlj
    have key := ch127 (d := d) (Q := yQ h3 (some o)) t1 of hf0 hf1 hf5 (j := j) (by rw [hg 130 (by decide)]; exact v1) (fun zj ozj => by
      rw [ea]
      refine (ch146 (U := U) t1 of oz (fun v hv => by cases hv; exact ozj) hC5 haj.1 haj.2 (by rw [hg 126 (by decide)]; exact hfj) (by clear hlen hfi; omega) (by rw [wk_it_g hg, hg 126 (by decide)]; clear hlen hfi; omega)).imp (fun w h' hq => ?_)
      obtain ⟨p1, p2, p3, p4, p5⟩ := hq
      subst p1
      have := yQ_fr R5 (by clear hlen hfi; omega) p2 p3 t1 rfl
      exact ⟨this.1, this.2.1, this.2.2.1, this.2.2.2.1, by have := this.2.2.2.2; clear hlen hfi; omega⟩) (j + 1) 0 (by clear hlen hfi; omega) (Nat.zero_le _)
    rw [hg 129 (by decide)] at key
    exact key
  · intro b1 c1 c2
    exfalso; clear hlen hfi; omega
end PRC
section PFD
variable {g : wk_g} {V : Int → Int} {K V' : Nat → Int} {r r1 r2 : List wk_E} {s s1 : gm_S} {c c2 : Nat}
theorem dm_sg_pf {u : Int} (hc : gm_len s = (c : Int)) (h : dm_sg 0 g V u r s = some (r1, s1)) (h2 : wk_sg g K u r c = some (r2, c2)) : r1 = r2 ∧ gm_len s1 = (c2 : Int) := by
  unfold dm_sg at h
  unfold wk_sg wk_sS at h2
  by_cases c9 : g 119 u.toNat = 9
  · rw [if_pos c9] at h h2
    rw [if_pos c9] at h2
    split at h2
    · injection h2 with h2
      injection h2 with h3 h4
      unfold pm_en at h
      split at h
      · cases h
      · obtain ⟨t, k1, k2⟩ := Option.map_eq_some_iff.mp h
        injection k2 with k3 k4
        subst k3
        subst k4
        obtain ⟨A, -, -, a3, -⟩ := pv_c (by decide) k1
        have ld : gm_len (gm_d t) = gm_len t := gm_d_e.1
        exact ⟨h3, by omega⟩
    · cases h2
  · rw [if_neg c9] at h h2
    by_cases c10 : g 119 u.toNat = 10
    · rw [if_pos c10] at h
      rw [if_neg (by omega), if_neg (by omega), if_neg c9, if_pos c10] at h2
      injection h with h
      injection h with k3 k4
      injection h2 with h2
      injection h2 with h3 h4
      subst k4
      exact ⟨k3.symm.trans h3, by omega⟩
    · rw [if_neg c10] at h
      obtain ⟨t, k1, k2⟩ := Option.map_eq_some_iff.mp h
      injection k2 with k3 k4
      subst k3
      subst k4
      unfold dm_lf at k1
      by_cases c1 : g 119 u.toNat = 1
      · rw [if_pos c1] at k1 h2
        split at h2
        · injection h2 with h2
          injection h2 with h3 h4
          obtain ⟨A, -, -, a3, -⟩ := pv_c (by decide) k1
          exact ⟨h3, by omega⟩
        · cases h2
      · rw [if_neg c1] at k1 h2
        by_cases c22 : g 119 u.toNat = 2
        · rw [if_pos c22] at k1 h2
          split at h2
          · injection h2 with h2
            injection h2 with h3 h4
            obtain ⟨A, -, -, a3, -⟩ := pv_c (by decide) k1
            exact ⟨h3, by omega⟩
          · cases h2
        · rw [if_neg c22] at k1 h2
          rw [if_neg c9, if_neg c10] at h2
          injection k1 with k1
          subst k1
          injection h2 with h2
          injection h2 with h3 h4
          exact ⟨h3, by omega⟩
theorem dm_pf {e : wk_E} (hc : gm_len s = (c : Int)) (hV : V' c = V (gm_len s)) (h : dm_st g V 0 e r s = some (r1, s1)) (h2 : wk_pf g K V' (e :: r, c) = some (r2, c2)) : r1 = r2 ∧ gm_len s1 = (c2 : Int) := by
  unfold dm_st at h
  unfold wk_pf at h2
  dsimp only at h2
  by_cases c0 : e.1 = 0
  · rw [if_pos c0] at h h2
    have lo : gm_len (gm_op e.2.2 s) = gm_len s := gm_op_e.2
    generalize gm_op e.2.2 s = so at h lo
    rw [hV, ← lo] at h2
    have hc : gm_len so = (c : Int) := by omega
    unfold dm_u at h
    by_cases c1 : g 122 e.2.1.toNat = 1
    · rw [if_pos c1] at h h2
      split at h2
      · injection h2 with h2
        injection h2 with h3 h4
        obtain ⟨t, k1, k2⟩ := Option.map_eq_some_iff.mp h
        injection k2 with k3 k4
        subst k3
        subst k4
        obtain ⟨A, -, -, a3, -⟩ := pv_c (by decide) k1
        have ld : gm_len (gm_d t) = gm_len t := gm_d_e.1
        exact ⟨h3, by omega⟩
      · cases h2
    · rw [if_neg c1] at h h2
      by_cases c22 : g 122 e.2.1.toNat = 2
      · rw [if_pos c22] at h h2
        split at h2
        · obtain ⟨t, k1, k2⟩ := Option.bind_eq_some_iff.mp h
          obtain ⟨A, -, -, a3, -⟩ := pv_c (by decide) k1
          have ld : gm_len (gm_d t) = gm_len t := gm_d_e.1
          by_cases cv : 0 < V (gm_len so)
          · rw [if_pos cv] at k2 h2
            exact dm_sg_pf (c := c + 1) (by omega) k2 h2
          · rw [if_neg cv] at k2 h2
            injection k2 with k2
            injection k2 with k3 k4
            injection h2 with h2
            injection h2 with h3 h4
            subst k4
            exact ⟨k3.symm.trans h3, by omega⟩
        · cases h2
      · rw [if_neg c22] at h h2
        exact dm_sg_pf hc h h2
  · rw [if_neg c0] at h h2
    by_cases c1 : e.1 = 1
    · rw [if_pos c1] at h h2
      unfold dm_fo at h
      by_cases cf : 1 < g 130 e.2.1.toNat
      · rw [if_pos cf] at h h2
        rw [hV] at h2
        split at h2
        · injection h2 with h2
          injection h2 with h3 h4
          split at h
          · obtain ⟨t, k1, k2⟩ := Option.map_eq_some_iff.mp h
            injection k2 with k3 k4
            subst k3
            subst k4
            obtain ⟨A, -, -, a3, -⟩ := pv_c (by decide) k1
            have ld : gm_len (gm_d t) = gm_len t := gm_d_e.1
            exact ⟨h3, by omega⟩
          · cases h
        · cases h2
      · rw [if_neg cf] at h h2
        injection h with h
        injection h with k3 k4
        injection h2 with h2
        injection h2 with h3 h4
        subst k4
        exact ⟨k3.symm.trans h3, by omega⟩
    · rw [if_neg c1] at h h2
      by_cases c5 : e.1 = 5
      · rw [if_pos c5] at h h2
        unfold dm_ag at h
        by_cases ca : 0 < e.2.2
        · rw [if_pos ca] at h h2
          exact dm_sg_pf hc h h2
        · rw [if_neg ca] at h h2
          injection h with h
          injection h with k3 k4
          injection h2 with h2
          injection h2 with h3 h4
          subst k4
          exact ⟨k3.symm.trans h3, by omega⟩
      · rw [if_neg c5] at h h2
        injection h2 with h2
        injection h2 with h3 h4
        by_cases c22 : e.1 = 2
        · rw [if_pos c22] at h
          injection h with h
          injection h with k3 k4
          subst k4
          exact ⟨k3.symm.trans h3, by unfold gm_len; rw [gm_T_mk]; unfold gm_len at hc; omega⟩
        · rw [if_neg c22] at h
          by_cases c3 : e.1 = 3
          · rw [if_pos c3] at h
            injection h with h
            injection h with k3 k4
            subst k4
            exact ⟨k3.symm.trans h3, by unfold gm_len; rw [gm_mid_T]; unfold gm_len at hc; omega⟩
          · rw [if_neg c3] at h
            injection h with h
            injection h with k3 k4
            subst k4
            refine ⟨k3.symm.trans h3, ?_⟩
            unfold gm_tu
            cases hP : gm_P s with
            | nil =>
              dsimp only
              omega
            | cons p q =>
              unfold gm_len at hc ⊢
              dsimp only
              rw [gm_T_mk, gm_rot_len]
              omega
end PFD
/-- the leaves, one behind the other -/
def ofd (Lr : Nat → Int) (g : wk_g) : List (Int × Int) → Option ox → Option ox
  | [], x => x
  | p :: L, x => ofd Lr g L (x.bind (oev Lr (g 119 p.1.toNat) (g 120 p.1.toNat) p.2))
section OFD
variable {Lr : Nat → Int} {g : wk_g}
theorem ofd_app : ∀ (L M : List (Int × Int)) (x : Option ox), ofd Lr g (L ++ M) x = ofd Lr g M (ofd Lr g L x) := by
  intro L
  induction L with
  | nil => intro M x; rfl
  | cons p L ih => intro M x; exact ih M _
theorem ofd_none : ∀ (L : List (Int × Int)), ofd Lr g L none = none := by
  intro L
  induction L with
  | nil => rfl
  | cons p L ih => exact ih
end OFD
/-! the reference's walk that prints, exactly -/
section ZP
variable {d : Nat} {h0 : sm_H} {Y : wk_Y} {zh : Int}
/-- what is asked: the tree that is replayed, its values, the literals -/
def zp_G (Y : wk_Y) (h0 : sm_H) (N : Nat) (sN : gm_S) (LN : List (Int × Int)) : Prop := pe_to (dm_st (mi_a h0) (yv h0) 0) (dv (mi_a h0) (yv h0)) N (tr_0 (mi_a h0)) ([], sN) LN ∧ N < 40000 ∧ vo (yv h0) sN ∧ (∀ x ∈ gm_T sN, (x.1 % 10 = 2 → 0 ≤ x.2.1 ∧ x.2.1 ≤ 9999) ∧ (x.1 % 10 = 3 → 0 < x.2.1 ∧ x.2.1 < 1073741824)) ∧ (∀ u, 0 ≤ u → u < wk_u Y → px_W h0 u) ∧ (∀ u, 0 ≤ u → u < wk_u Y → mi_a h0 119 u.toNat = 8 → 0 ≤ (mx_b h0 118 (mi_a h0 120 u.toNat).toNat).toInt ∧ (mx_b h0 118 (mi_a h0 120 u.toNat).toNat).toInt < 1073741824 ∧ 0 ≤ mi_a h0 117 (mi_a h0 120 u.toNat).toNat)
def zp_f (h0 : sm_H) (L : List (Int × Int)) (x : Option ox) : Option ox := ofd (tq_L h0) (mi_a h0) L x
def zp_I (Y : wk_Y) (h0 : sm_H) (N : Nat) (sN : gm_S) (R : Option ox) (zt : Int) (h : sm_H) : Prop := wl_I Y h0 2 (tp_I h0) zt h ∧ ∃ (s : gm_S) (M : List (Int × Int)) (o : ox) (k : Nat), pe_to (dm_st (mi_a h0) (yv h0) 0) (dv (mi_a h0) (yv h0)) k (wk_stk h, s) ([], sN) M ∧ zt + k = N ∧ gm_len s = mi_f h 14033 ∧ R = zp_f h0 M (some o) ∧ oR h (some o) ∧ 0 ≤ mi_f h 14036 ∧ mi_f h 14036 ≤ zt + 1
def zp_H (Y : wk_Y) (h0 : sm_H) (N : Nat) (sN : gm_S) (R : Option ox) (zt : Int) (h : sm_H) : Prop := (ab_Sh sx_sk h ∧ ab_Fr wr_WK h0 h ∧ mi_f h 14044 = 1 ∧ R = none) ∨ zp_I Y h0 N sN R zt h
def zp_End (h0 : sm_H) (R : Option ox) (w : Option mi_V) (h' : sm_H) : Prop := w = none ∧ ab_Sh sx_sk h' ∧ ab_Fr wr_WK h0 h' ∧ oR h' R
variable {N : Nat} {sN : gm_S} {R : Option ox} {LN : List (Int × Int)}
theorem zp_247 {zt : Int} {q3 q4 : Option mi_V} {h : sm_H} (oh : mi_in zh) (ot : mi_in zt) (o3 : ∀ v, q3 = some v → mi_ok v) (o4 : ∀ v, q4 = some v → mi_ok v) (hN : N < 40000) (hH : zp_H Y h0 N sN R zt h) (he : zp_I Y h0 N sN R zt h → mi_f h 14029 ≤ 0 ∨ zt = 40000) : me_E (d + 7) 206 247 [some (.inr (.inr 109)), some (.inl zh), some (.inl zt), q3, q4] [] h (zp_End h0 R) := by
  have hS : ab_Sh sx_sk h := by
    rcases hH with hH | hH
    · exact hH.1
    · exact hH.1.1.1
  have fin : zp_End h0 R none h := by
    rcases hH with ⟨k1, k2, k3, k4⟩ | hI
    · exact ⟨rfl, k1, k2, Or.inl ⟨k4, k3⟩⟩
    · refine ⟨rfl, hS, hI.1.2.1, ?_⟩
      have e := he hI
      obtain ⟨hw, s, M, o, k, m1, m2, m3, m4, m5, -⟩ := hI
      rcases e with e | e
      · have := hw.1.2.2.2.2.2.2.1
        have e0 : mi_f h 14029 = 0 := by omega
        have est : wk_stk h = [] := by
          unfold wk_stk
          rw [e0]
          rfl
        rw [est] at m1
        obtain ⟨x1, x2, x3⟩ := pe_u 0 k _ [] M (show pe_to (dm_st (mi_a h0) (yv h0) 0) (dv (mi_a h0) (yv h0)) 0 (([], s) : gm_C) ([], s) [] from ⟨rfl, rfl⟩) m1
        rw [m4, ← x3]
        exact m5
      · exfalso; omega
  refine mt_waE hS oh ot o3 o4 ?_ ?_ ?_ ?_ ?_
  · intro b c h3 r1 r2
    have e3 := me_nil r2
    subst e3
    exact fin
  · intro b1 b2 c1 c2 h3 r1 r2
    have e3 := me_nil r2
    subst e3
    exact fin
  · intro b1 b2 b3 c1 c2 c3 h3 r1 r2
    have e3 := me_nil r2
    subst e3
    exact fin
  · intro b1 b2 b3 b4 c1 c2 c3 c4
    exfalso
    rcases hH with hH | hI
    · have := hH.2.2.1
      omega
    · have := hI.1.1.2.1
      omega
  · intro b1 b2 b3 b4 c1 c2 c3 c4
    exfalso
    rcases hH with hH | hI
    · have := hH.2.2.1
      omega
    · have := hI.1.1.2.1
      omega
/-- what is there before a turn, and what is to be shown of it -/
theorem zp_turn {zt : Int} {h : sm_H} {e : wk_E} {r : List wk_E} (hS0 : ab_Sh sx_sk h0) (hG : zp_G Y h0 N sN LN) (hI : zp_I Y h0 N sN R zt h) (z0 : 0 ≤ zt) (hst : wk_stk h = e :: r) : ∃ (s : gm_S) (o : ox) (c1 : gm_C), oR h (some o) ∧ gm_len s = mi_f h 14033 ∧ dm_st (mi_a h0) (yv h0) 0 e r s = some c1 ∧ (∀ x ∈ gm_T c1.2, x ∈ gm_T sN) ∧ 0 ≤ mi_f h 14036 ∧ mi_f h 14036 ≤ zt + 1 ∧ ∀ h', wl_H Y h0 2 (tp_I h0) (zt + 1) h' → oR h' (zp_f h0 (dv (mi_a h0) (yv h0) e s) (some o)) → 0 ≤ mi_f h' 14036 → mi_f h' 14036 ≤ mi_f h 14036 + 1 → zp_H Y h0 N sN R (zt + 1) h' := by
  obtain ⟨hw, s, M, o, k, m1, m2, m3, m4, m5, m6, m7⟩ := hI
  rw [hst] at m1
  cases k with
  | zero =>
    obtain ⟨x, -⟩ := m1
    cases x
  | succ k =>
    obtain ⟨c1, M1, n1, n2, n3⟩ := pe_cons m1
    refine ⟨s, o, c1, m5, m3, n1, fun x hx => ?_, m6, m7, fun h' hH hR b0 b1 => ?_⟩
    · exact (dw_to (V' := yv h0) (fun y hy _ _ => hG.2.2.1 y hy) k c1 (pe_pw _ _ _ n2)).2 x hx
    · have e4 : R = zp_f h0 M1 (zp_f h0 (dv (mi_a h0) (yv h0) e s) (some o)) := by
        rw [m4, n3]
        exact ofd_app _ _ _
      generalize zp_f h0 (dv (mi_a h0) (yv h0) e s) (some o) = y at hR e4
      cases y with
      | none =>
        have x1 := oR_no hR
        have e5 : R = none := e4.trans (ofd_none M1)
        rcases hH with hH | hH
        · exact Or.inl ⟨hH.1, hH.2.1, x1, e5⟩
        · exact Or.inl ⟨hH.1.1, hH.2.1, x1, e5⟩
      | some o' =>
        have x1 := (oR_len hR).1
        rcases hH with hH | hH
        · exfalso
          rcases hH.2.2 with q | q
          · omega
          · exact absurd q.1 (by decide)
        · have t0 : tp_I h0 zt h := hw.2.2.2.1
          have t1 : tp_I h0 (zt + 1) h' := hH.2.2.2.1
          unfold tp_I at t0 t1
          rw [wk_tr_S z0 t0, hst] at t1
          have w0 := hw.1.2.2.2.2.2.2.2.2.2.2
          have w0' := hH.1.2.2.2.2.2.2.2.2.2.2
          have ew : wk_n 2 h = mi_f h 14033 := rfl
          have ew' : wk_n 2 h' = mi_f h' 14033 := rfl
          obtain ⟨p1, p2⟩ := dm_pf (V := yv h0) (c := (wk_n 2 h).toNat) (by omega) (by
            show (mx_b h0 162 (wk_n 2 h).toNat).toInt = (mx_b h0 162 (gm_len s).toNat).toInt
            rw [m3, ew]) (show dm_st (mi_a h0) (yv h0) 0 e r s = some (c1.1, c1.2) from n1) t1
          refine Or.inr ⟨hH, c1.2, M1, o', k, ?_, by omega, by omega, e4, hR, b0, by omega⟩
          rw [← p1]
          exact n2
/-- what is known of a leaf that was taken -/
theorem zp_leaf {u : Int} {r r1 : List wk_E} {s s1 : gm_S} (hG : zp_G Y h0 N sN LN) (h : dm_sg 0 (mi_a h0) (yv h0) u r s = some (r1, s1)) (hm : ∀ x ∈ gm_T s1, x ∈ gm_T sN) (u0 : 0 ≤ u) (u1 : u < wk_u Y) : yl h0 u (gm_len s) := by
  obtain ⟨-, -, -, g4, g5, g6⟩ := hG
  unfold dm_sg at h
  refine ⟨fun q => ?_, fun q => ?_, g6 u u0 u1, fun q => ?_⟩
  · rw [if_neg (by omega), if_neg (by omega)] at h
    obtain ⟨t, k1, k2⟩ := Option.map_eq_some_iff.mp h
    injection k2 with k3 k4
    subst k4
    unfold dm_lf at k1
    rw [if_pos q] at k1
    obtain ⟨A, a1, a2, a3, dd, a4⟩ := pv_c (by decide) k1
    have := (g4 _ (hm _ (by rw [a1, a4]; exact List.mem_append_right _ List.mem_cons_self))).1
    dsimp only at this
    have := this (by omega)
    obtain ⟨w0, w1⟩ := g5 u u0 u1 q
    exact ⟨this.1, this.2, w0, w1⟩
  · rw [if_neg (by omega), if_neg (by omega)] at h
    obtain ⟨t, k1, k2⟩ := Option.map_eq_some_iff.mp h
    injection k2 with k3 k4
    subst k4
    unfold dm_lf at k1
    rw [if_neg (by omega), if_pos q] at k1
    obtain ⟨A, a1, a2, a3, dd, a4⟩ := pv_c (by decide) k1
    have := (g4 _ (hm _ (by rw [a1, a4]; exact List.mem_append_right _ List.mem_cons_self))).2
    dsimp only at this
    exact this (by omega)
  · rw [if_neg (by omega), if_neg (by omega)] at h
    obtain ⟨t, k1, k2⟩ := Option.map_eq_some_iff.mp h
    unfold dm_lf at k1
    have gl : gm_len s = ((gm_T s).length : Int) := rfl
    rcases q with q | q
    · rw [if_pos q] at k1
      have := (gm_c_len k1).1
      omega
    · rw [if_neg (by omega), if_pos q] at k1
      have := (gm_c_len k1).1
      omega
theorem zp_ye {u c : Int} {o : ox} : zp_f h0 (dv_lf (mi_a h0) (yv h0) u c) (some o) = ye h0 u c o := by
  unfold zp_f dv_lf ye
  by_cases q : mi_a h0 119 u.toNat = 9 ∨ mi_a h0 119 u.toNat = 10
  · rw [if_pos q, if_pos q]
    rfl
  · rw [if_neg q, if_neg q]
    rfl
theorem zp_yo {zt : Int} {h h1 : sm_H} {o : ox} (hI : wl_I Y h0 2 (tp_I h0) zt h) (ht : 0 < mi_f h 14029) (g1 : ab_Sh sx_sk h1) (g2 : mi_f h1 14029 = mi_f h 14029 - 1) (g3 : ab_Fr [(14029, 14030)] h h1) (hR : oR h (some o)) (b0 : 0 ≤ mi_f h 14036) (b1 : mi_f h 14036 ≤ 40000) (n100 : mi_f h 14033 ≤ 100) : yo h1 o := by
  have hS := hI.1.1
  have w0 := hI.1.2.2.2.2.2.2.2.2.2.2
  have ew : wk_n 2 h = mi_f h 14033 := rfl
  have f36 : mi_f h1 14036 = mi_f h 14036 := me_f (c := 14036) g3 hS rfl rfl
  have f32 : mi_f h1 14032 = mi_f h 14032 := me_f (c := 14032) g3 hS rfl rfl
  have f33 : mi_f h1 14033 = mi_f h 14033 := me_f (c := 14033) g3 hS rfl rfl
  have i7 := hI.1.2.2.2.2.2.2.2.1
  have i8 := hI.1.2.2.2.2.2.2.2.2.1
  exact ⟨g1, (me_f (c := 14028) g3 hS rfl rfl).trans hI.1.2.1, oR_fr hR g3 hS rfl, by omega, by omega, by omega, by omega, by omega, by omega, by omega⟩
end ZP
/-! the turns of the reference's walk that prints -/
theorem pf_unit {g : wk_g} {K V : Nat → Int} {w a : Int} {r : List wk_E} {c : Nat} {s' : List wk_E × Nat} (h : wk_pf g K V ((0, w, a) :: r, c) = some s') : (g 122 w.toNat = 1 ∨ g 122 w.toNat = 2) → (0 ≤ V c ∧ V c ≤ 1000000) ∧ c + 1 ≤ s'.2 := by
  intro q
  unfold wk_pf at h
  dsimp only at h
  rw [if_pos rfl] at h
  by_cases c1 : g 122 w.toNat = 1
  · rw [if_pos c1] at h
    split at h
    · rename_i k
      injection h with h
      subst h
      exact ⟨k.2, Nat.le_refl _⟩
    · cases h
  · have c2 : g 122 w.toNat = 2 := by omega
    rw [if_neg c1, if_pos c2] at h
    split at h
    · rename_i k
      refine ⟨k.2, ?_⟩
      split at h
      · exact wk_sg_mono h
      · injection h with h
        subst h
        exact Nat.le_refl _
    · cases h
section ZPT
variable {d : Nat} {h0 : sm_H} {Y : wk_Y} {N : Nat} {sN : gm_S} {R : Option ox} {LN : List (Int × Int)}
theorem zp_u {h h1 : sm_H} {zt w a : Int} (hS0 : ab_Sh sx_sk h0) (hT : wl_T Y h0 2 (tp_I h0)) (hL : wk_L (mi_a h) Y) (hG : zp_G Y h0 N sN LN) (hI : zp_I Y h0 N sN R zt h) (z0 : 0 ≤ zt) (z1 : zt < 40000) (ht : 0 < mi_f h 14029) (g1 : ab_Sh sx_sk h1) (g2 : mi_f h1 14029 = mi_f h 14029 - 1) (g3 : ab_Fr [(14029, 14030)] h h1) (e0 : mi_a h 165 (mi_f h 14029 - 1).toNat = 0) (ew : mi_a h 166 (mi_f h 14029 - 1).toNat = w) (ea : mi_a h 167 (mi_f h 14029 - 1).toNat = a) (ha : a = 0 ∨ a = 1) : me_E (d + 6) 210 0 [some (.inr (.inr 109)), some (.inl w), some (.inl a), none, none] [] h1 (fun v h' => v = none ∧ zp_H Y h0 N sN R (zt + 1) h') := by
  obtain ⟨e1, hg, hn, hag, hK2, hV2, hZ, e30, e32, e16, hlen⟩ := wl_pop hI.1 ht g1 g2 g3
  rw [e0, ew, ea] at e1
  have hSI := hI.1.2.2.1
  rw [e1] at hSI
  have hU : wk_U Y w ((wk_stk h1).length : Int) (mi_f h 14030) (mi_f h 14032) (1 - a) := by
    rcases ha with rfl | rfl
    · exact (wk_unit0 hSI).1
    · exact (wk_unit1 hSI).1
  obtain ⟨u1, u2, u3, u4, u5, u6, u7⟩ := hU
  obtain ⟨⟨a1, -, -, a4, a5⟩, -⟩ := hL.2.2.1 w u1 u2
  have hd := (hL.2.2.2 _ a4 a5).2.1
  obtain ⟨s, o, c1, t1, t2, t3, t4, b0, b1, t5⟩ := zp_turn hS0 hG hI z0 e1
  obtain ⟨s', x1, x2⟩ := hT.1 rfl zt h hI.1 (by rw [e1]; intro z; cases z) z0 z1
  have xm := wk_pf_mono x1
  have ewn : wk_n 2 h = mi_f h 14033 := rfl
  have w0 := hI.1.1.2.2.2.2.2.2.2.2.2.2
  have xm : (wk_n 2 h).toNat ≤ s'.2 := xm
  rw [e1] at x1
  have F01 : ab_Fr wr_WK h0 h1 := hI.1.2.1.trans (g3.wide (fun c hc => ab_swr_ok (by decide) hc))
  have f33 : mi_f h1 14033 = mi_f h 14033 := me_f (c := 14033) g3 hI.1.1.1 rfl rfl
  have f36 : mi_f h1 14036 = mi_f h 14036 := me_f (c := 14036) g3 hI.1.1.1 rfl rfl
  have f30 : mi_f h1 14030 = mi_f h 14030 := e30
  have hg0 : wk_gc (mi_a h0) (mi_a h1) := wk_gc_fr F01 hS0 rfl
  have hgh : wk_gc (mi_a h0) (mi_a h) := wk_gc_fr hI.1.2.1 hS0 rfl
  have yv1 : ∀ c, yv h1 c = yv h0 c := fun c => by unfold yv; rw [me_b (k := 162) F01 hS0 rfl rfl]
  have yev : ∀ (u c : Int) (y : ox), ye h1 u c y = ye h0 u c y := fun u c y => (ye_fr (u := u) (c := c) (y := y) F01 hS0 rfl rfl rfl rfl rfl).1
  have ylv : ∀ (u c : Int), yl h0 u c → yl h1 u c := fun u c => (ye_fr (u := u) (c := c) (y := o) F01 hS0 rfl rfl rfl rfl rfl).2
  have e122 : mi_a h1 122 w.toNat = mi_a h0 122 w.toNat := hg0 122 (by decide) _
  have pu := pf_unit x1
  have eV : wk_V 2 h (wk_n 2 h).toNat = yv h0 (mi_f h 14033) := by
    show (mx_b h 162 (mi_f h 14033).toNat).toInt = (mx_b h0 162 (mi_f h 14033).toNat).toInt
    rw [me_b (k := 162) hI.1.2.1 hS0 rfl rfl]
  rw [dm_st_0] at t3
  have lo : gm_len (gm_op a s) = gm_len s := gm_op_e.2
  have edv : dv (mi_a h0) (yv h0) (0, w, a) s = if mi_a h0 122 w.toNat = 1 then [] else if mi_a h0 122 w.toNat = 2 then (if 0 < yv h0 (gm_len s) then dv_lf (mi_a h0) (yv h0) w (gm_len s + 1) else []) else dv_lf (mi_a h0) (yv h0) w (gm_len s) := by
    unfold dv
    rw [if_pos rfl]
  refine ((wl_u (d := d) hT hL hI.1 z0 z1 ht g1 g2 g3 e0 ew ea ha).and (me_unito (d := d) (o := o) (zp_yo hI.1 ht g1 g2 g3 t1 b0 (by omega) (by omega)) (wl_us hL hg u1 u2) (by omega) ha (fun z => by omega) (fun q => ?_) (fun q1 q2 => ?_) (fun q1 q2 => ?_))).imp (fun v h' hq => ?_)
  · have := pu (by rw [hgh 122 (by decide), ← e122]; exact q)
    rw [eV] at this
    rw [f33, yv1]
    exact ⟨this.1, by omega⟩
  · rw [f33, yv1] at q2
    rw [e122] at q1
    rw [f33]
    unfold dm_u at t3
    rw [if_neg (by omega), if_pos q1] at t3
    obtain ⟨t, k1, k2⟩ := Option.bind_eq_some_iff.mp t3
    rw [lo, t2, if_pos q2] at k2
    obtain ⟨A, -, -, a3, -⟩ := pv_c (by decide) k1
    have ld : gm_len (gm_d t) = gm_len t := gm_d_e.1
    have := zp_leaf hG (show dm_sg 0 (mi_a h0) (yv h0) w ((2, 0, 0) :: wk_stk h1) (gm_d t) = some (c1.1, c1.2) from k2) t4 u1 u2
    rw [ld, a3, lo, t2] at this
    exact ylv _ _ this
  · rw [e122] at q1 q2
    rw [f33]
    unfold dm_u at t3
    rw [if_neg q1, if_neg q2] at t3
    have := zp_leaf hG (show dm_sg 0 (mi_a h0) (yv h0) w (wk_stk h1) (gm_op a s) = some (c1.1, c1.2) from t3) t4 u1 u2
    rw [lo, t2] at this
    exact ylv _ _ this
  · obtain ⟨⟨q1, q2⟩, -, -, q5, q6, q7⟩ := hq
    refine ⟨q1, t5 h' q2 ?_ q6 (by omega)⟩
    have : yu h1 w (mi_f h1 14033) o = zp_f h0 (dv (mi_a h0) (yv h0) (0, w, a) s) (some o) := by
      rw [edv, t2, f33]
      unfold yu
      rw [e122]
      by_cases c1 : mi_a h0 122 w.toNat = 1
      · rw [if_pos c1, if_pos c1]
        rfl
      · rw [if_neg c1, if_neg c1]
        by_cases c2 : mi_a h0 122 w.toNat = 2
        · rw [if_pos c2, if_pos c2, yv1]
          by_cases cv : 0 < yv h0 (mi_f h 14033)
          · rw [if_pos cv, if_pos cv, zp_ye]
            exact yev _ _ _
          · rw [if_neg cv, if_neg cv]
            rfl
        · rw [if_neg c2, if_neg c2, zp_ye]
          exact yev _ _ _
    rw [← this]
    exact q5
theorem zp_a {h h1 : sm_H} {zt w a : Int} (hS0 : ab_Sh sx_sk h0) (hT : wl_T Y h0 2 (tp_I h0)) (hL : wk_L (mi_a h) Y) (hG : zp_G Y h0 N sN LN) (hI : zp_I Y h0 N sN R zt h) (z0 : 0 ≤ zt) (z1 : zt < 40000) (ht : 0 < mi_f h 14029) (g1 : ab_Sh sx_sk h1) (g2 : mi_f h1 14029 = mi_f h 14029 - 1) (g3 : ab_Fr [(14029, 14030)] h h1) (e0 : mi_a h 165 (mi_f h 14029 - 1).toNat = 5) (ew : mi_a h 166 (mi_f h 14029 - 1).toNat = w) (ea : mi_a h 167 (mi_f h 14029 - 1).toNat = a) : me_E (d + 6) 227 0 [some (.inr (.inr 109)), some (.inl w), some (.inl a), none] [] h1 (fun v h' => v = none ∧ zp_H Y h0 N sN R (zt + 1) h') := by
  obtain ⟨e1, hg, hn, hag, hK2, hV2, hZ, e30, e32, e16, hlen⟩ := wl_pop hI.1 ht g1 g2 g3
  rw [e0, ew, ea] at e1
  have oa : mi_in a := by rw [← ea]; exact mi_inT _
  have hSI := hI.1.2.2.1
  rw [e1] at hSI
  obtain ⟨⟨u1, u2, u3, u4, u5, u6, u7⟩, hb⟩ := wk_again hSI
  obtain ⟨⟨a1, -⟩, -⟩ := hL.2.2.1 w u1 u2
  obtain ⟨s, o, c1, t1, t2, t3, t4, b0, b1, t5⟩ := zp_turn hS0 hG hI z0 e1
  obtain ⟨s', x1, x2⟩ := hT.1 rfl zt h hI.1 (by rw [e1]; intro z; cases z) z0 z1
  have xm := wk_pf_mono x1
  have ewn : wk_n 2 h = mi_f h 14033 := rfl
  have w0 := hI.1.1.2.2.2.2.2.2.2.2.2.2
  have xm : (wk_n 2 h).toNat ≤ s'.2 := xm
  have F01 : ab_Fr wr_WK h0 h1 := hI.1.2.1.trans (g3.wide (fun c hc => ab_swr_ok (by decide) hc))
  have f33 : mi_f h1 14033 = mi_f h 14033 := me_f (c := 14033) g3 hI.1.1.1 rfl rfl
  have f36 : mi_f h1 14036 = mi_f h 14036 := me_f (c := 14036) g3 hI.1.1.1 rfl rfl
  have yev : ∀ (u c : Int) (y : ox), ye h1 u c y = ye h0 u c y := fun u c y => (ye_fr (u := u) (c := c) (y := y) F01 hS0 rfl rfl rfl rfl rfl).1
  have ylv : ∀ (u c : Int), yl h0 u c → yl h1 u c := fun u c => (ye_fr (u := u) (c := c) (y := o) F01 hS0 rfl rfl rfl rfl rfl).2
  rw [dm_st_5] at t3
  have edv : dv (mi_a h0) (yv h0) (5, w, a) s = if 0 < a then dv_lf (mi_a h0) (yv h0) w (gm_len s) else [] := by
    unfold dv
    rw [if_neg (show ¬ (5 : Int) = 0 by decide), if_pos rfl]
  refine ((wl_a (d := d) hT hL hI.1 z0 z1 ht g1 g2 g3 e0 ew ea).and (me_againo (d := d) (o := o) (zp_yo hI.1 ht g1 g2 g3 t1 b0 (by omega) (by omega)) (wl_us hL hg u1 u2) oa (fun q => ?_) (by omega))).imp (fun v h' hq => ?_)
  · rw [f33]
    unfold dm_ag at t3
    rw [if_pos q] at t3
    have := zp_leaf hG (show dm_sg 0 (mi_a h0) (yv h0) w ((5, w, a - 1) :: wk_stk h1) s = some (c1.1, c1.2) from t3) t4 u1 u2
    rw [t2] at this
    exact ylv _ _ this
  · obtain ⟨⟨q1, q2⟩, -, -, q5, q6, q7⟩ := hq
    refine ⟨q1, t5 h' q2 ?_ q6 (by omega)⟩
    have : (if 0 < a then ye h1 w (mi_f h1 14033) o else some o) = zp_f h0 (dv (mi_a h0) (yv h0) (5, w, a) s) (some o) := by
      rw [edv, t2, f33]
      by_cases ca : 0 < a
      · rw [if_pos ca, if_pos ca, zp_ye]
        exact yev _ _ _
      · rw [if_neg ca, if_neg ca]
        rfl
    rw [← this]
    exact q5
theorem zp_c {h h1 : sm_H} {zt f a : Int} (hS0 : ab_Sh sx_sk h0) (hT : wl_T Y h0 2 (tp_I h0)) (hL : wk_L (mi_a h) Y) (hG : zp_G Y h0 N sN LN) (hI : zp_I Y h0 N sN R zt h) (z0 : 0 ≤ zt) (z1 : zt < 40000) (ht : 0 < mi_f h 14029) (g1 : ab_Sh sx_sk h1) (g2 : mi_f h1 14029 = mi_f h 14029 - 1) (g3 : ab_Fr [(14029, 14030)] h h1) (e0 : mi_a h 165 (mi_f h 14029 - 1).toNat = 1) (ew : mi_a h 166 (mi_f h 14029 - 1).toNat = f) (ea : mi_a h 167 (mi_f h 14029 - 1).toNat = a) : me_E (d + 6) 223 0 [some (.inr (.inr 109)), some (.inl f), none, none, none, none] [] h1 (fun v h' => v = none ∧ zp_H Y h0 N sN R (zt + 1) h') := by
  obtain ⟨e1, hg, hn, hag, hK2, hV2, hZ, e30, e32, e16, hlen⟩ := wl_pop hI.1 ht g1 g2 g3
  rw [e0, ew, ea] at e1
  have hSI := hI.1.2.2.1
  rw [e1] at hSI
  obtain ⟨hF, hb⟩ := wk_form hSI
  have hL1 : wk_L (mi_a h1) Y := wk_L_g hL hg
  obtain ⟨f1, f2, -⟩ := id hF
  obtain ⟨d1, d2, d3, d4, dB, d5⟩ := hL1.2.2.2 f f1 f2
  have hf80 := hL.2.1
  obtain ⟨s, o, c1, t1, t2, t3, t4, b0, b1, t5⟩ := zp_turn hS0 hG hI z0 e1
  obtain ⟨s', x1, x2⟩ := hT.1 rfl zt h hI.1 (by rw [e1]; intro z; cases z) z0 z1
  have xm := wk_pf_mono x1
  have ewn : wk_n 2 h = mi_f h 14033 := rfl
  have w0 := hI.1.1.2.2.2.2.2.2.2.2.2.2
  have xm : (wk_n 2 h).toNat ≤ s'.2 := xm
  have F01 : ab_Fr wr_WK h0 h1 := hI.1.2.1.trans (g3.wide (fun c hc => ab_swr_ok (by decide) hc))
  have hg0 : wk_gc (mi_a h0) (mi_a h1) := wk_gc_fr F01 hS0 rfl
  have f33 : mi_f h1 14033 = mi_f h 14033 := me_f (c := 14033) g3 hI.1.1.1 rfl rfl
  have f36 : mi_f h1 14036 = mi_f h 14036 := me_f (c := 14036) g3 hI.1.1.1 rfl rfl
  have yv1 : ∀ c, yv h1 c = yv h0 c := fun c => by unfold yv; rw [me_b (k := 162) F01 hS0 rfl rfl]
  rw [dm_st_1] at t3
  have edv : dv (mi_a h0) (yv h0) (1, f, a) s = [] := by
    unfold dv
    rw [if_neg (show ¬ (1 : Int) = 0 by decide), if_neg (show ¬ (1 : Int) = 5 by decide)]
  rw [edv] at t5
  refine ((wl_f (d := d) hT hL hI.1 z0 z1 ht g1 g2 g3 e0 ew ea).and (me_chooseo (d := d) (o := o) (zp_yo hI.1 ht g1 g2 g3 t1 b0 (by omega) (by omega)) f1 (by omega) ⟨d3, d4, fun j hj => ⟨(d5 j hj).1, (d5 j hj).2.1⟩⟩ (wk_L_C hL1) (fun j hj => ?_) (fun j hj => ?_) (fun hc => ?_))).imp (fun v h' hq => ?_)
  · rcases (d5 j hj).2.2 with x | x
    · exact Or.inl x
    · exact Or.inr x.1
  · have := (wl_D hL1 hF hb hj).1
    omega
  · rw [f33, yv1]
    rw [hg0 130 (by decide)] at hc ⊢
    unfold dm_fo at t3
    rw [if_pos hc, t2] at t3
    have gl : gm_len s = ((gm_T s).length : Int) := rfl
    split at t3
    · rename_i k
      obtain ⟨t, k1, k2⟩ := Option.map_eq_some_iff.mp t3
      have := (gm_c_len k1).1
      exact ⟨k.1, k.2, by omega⟩
    · cases t3
  · obtain ⟨⟨q1, q2⟩, -, -, q5, q6, q7⟩ := hq
    exact ⟨q1, t5 h' q2 q5 q6 (by omega)⟩
end ZPT
/-! the loop of the reference's walk that prints; the walk -/
section ZPL
variable {d : Nat} {h0 : sm_H} {Y : wk_Y} {zh : Int} {N : Nat} {sN : gm_S} {R : Option ox} {LN : List (Int × Int)}
/-- a turn that prints nothing -/
theorem zp_rest {zt e w a : Int} {h h' : sm_H} {r : List wk_E} {wr : List (Nat × Nat)} (hS0 : ab_Sh sx_sk h0) (hG : zp_G Y h0 N sN LN) (hI : zp_I Y h0 N sN R zt h) (z0 : 0 ≤ zt) (hst : wk_stk h = (e, w, a) :: r) (he : e = 2 ∨ e = 3 ∨ e = 4) (g1 : ab_Sh sx_sk h') (hF : ab_Fr wr h h') (hw : (ab_in wr 14036 || ab_in wr 14037 || ab_in wr 14044 || ab_in wr 14045 || ab_in wr 14046 || ab_in wr 21760) = false) (hH : wl_H Y h0 2 (tp_I h0) (zt + 1) h') : zp_H Y h0 N sN R (zt + 1) h' := by
  obtain ⟨s, o, c1, t1, t2, t3, t4, b0, b1, t5⟩ := zp_turn hS0 hG hI z0 hst
  have edv : dv (mi_a h0) (yv h0) (e, w, a) s = [] := by
    unfold dv
    rw [if_neg (show ¬ e = 0 by omega), if_neg (show ¬ e = 5 by omega)]
  rw [edv] at t5
  have hS := hI.1.1.1
  have w1 : ab_in wr 14036 = false := by
    simp only [Bool.or_eq_false_iff] at hw
    exact hw.1.1.1.1.1
  have e36 := me_f (c := 14036) hF hS rfl w1
  exact t5 h' hH (oR_fr t1 hF hS hw) (by omega) (by omega)
theorem zp_loop (hT : wl_T Y h0 2 (tp_I h0)) (hL0 : wk_L (mi_a h0) Y) (hS0 : ab_Sh sx_sk h0) (hG : zp_G Y h0 N sN LN) (oh : mi_in zh) : ∀ (J : Nat) (zt : Int) (q3 q4 : Option mi_V) (h : sm_H), 40000 - zt < J → 0 ≤ zt → zt ≤ 40000 → (∀ v, q3 = some v → mi_ok v) → (∀ v, q4 = some v → mi_ok v) → zp_H Y h0 N sN R zt h → me_E (d + 7) 206 52 [some (.inr (.inr 109)), some (.inl zh), some (.inl zt), q3, q4] [] h (zp_End h0 R) := by
  intro J
  induction J with
  | zero => intro zt q3 q4 h hN z0 z1; exfalso; omega
  | succ J ih =>
    intro zt q3 q4 h hN z0 z1 o3 o4 hH
    have ot : mi_in zt := ⟨by omega, by omega⟩
    have hS : ab_Sh sx_sk h := by
      rcases hH with hH | hH
      · exact hH.1
      · exact hH.1.1.1
    have toI : mi_f h 14034 < 0 → mi_f h 14044 = 0 → zp_I Y h0 N sN R zt h := fun a b => by
      rcases hH with hH | hH
      · exfalso
        have := hH.2.2.1
        omega
      · exact hH
    have o2 : ∀ x : Int32, ∀ v : mi_V, some (Sum.inl x.toInt : mi_V) = some v → mi_ok v := fun x v e => by
      cases e
      exact mi_inT x
    have nx : ∀ (x y : Int32) (h' : sm_H), zt < 40000 → zp_H Y h0 N sN R (zt + 1) h' → ab_Sh sx_sk h' ∧ me_E (d + 7) 206 52 [some (.inr (.inr 109)), some (.inl zh), some (.inl (zt + 1)), some (.inl x.toInt), some (.inl y.toInt)] [] h' (zp_End h0 R) := fun x y h' hlt hq => by
      refine ⟨?_, ih (zt + 1) _ _ h' (by omega) (by omega) (by omega) (o2 x) (o2 y) hq⟩
      rcases hq with hq | hq
      · exact hq.1
      · exact hq.1.1.1
    have nx175 : ∀ (x y : Int32) (h' : sm_H), zt < 40000 → zp_H Y h0 N sN R (zt + 1) h' → me_E (d + 7) 206 175 [some (.inr (.inr 109)), some (.inl zh), some (.inl zt), some (.inl x.toInt), some (.inl y.toInt)] [] h' (zp_End h0 R) := fun x y h' hlt hq => mt_wb175 (nx x y h' hlt hq).1 oh ot (mi_inT x) (mi_inT y) ⟨by omega, fun h3 r1 r2 => by
      have e3 := me_nil r2
      subst e3
      exact (nx x y _ hlt hq).2⟩
    have nx183 : ∀ (x y : Int32) (h' : sm_H), zt < 40000 → zp_H Y h0 N sN R (zt + 1) h' → me_E (d + 7) 206 183 [some (.inr (.inr 109)), some (.inl zh), some (.inl zt), some (.inl x.toInt), some (.inl y.toInt)] [] h' (zp_End h0 R) := fun x y h' hlt hq => mt_wb183 (nx x y h' hlt hq).1 oh ot (mi_inT x) (mi_inT y) ⟨by omega, fun h3 r1 r2 => by
      have e3 := me_nil r2
      subst e3
      exact (nx x y _ hlt hq).2⟩
    have nx208 : ∀ (x y : Int32) (h' : sm_H), zt < 40000 → zp_H Y h0 N sN R (zt + 1) h' → me_E (d + 7) 206 208 [some (.inr (.inr 109)), some (.inl zh), some (.inl zt), some (.inl x.toInt), some (.inl y.toInt)] [] h' (zp_End h0 R) := fun x y h' hlt hq => mt_wb208 (nx x y h' hlt hq).1 oh ot (mi_inT x) (mi_inT y) ⟨by omega, fun h3 r1 r2 => by
      have e3 := me_nil r2
      subst e3
      exact (nx x y _ hlt hq).2⟩
    have nx218 : ∀ (x y : Int32) (h' : sm_H), zt < 40000 → zp_H Y h0 N sN R (zt + 1) h' → me_E (d + 7) 206 218 [some (.inr (.inr 109)), some (.inl zh), some (.inl zt), some (.inl x.toInt), some (.inl y.toInt)] [] h' (zp_End h0 R) := fun x y h' hlt hq => mt_wb218 (nx x y h' hlt hq).1 oh ot (mi_inT x) (mi_inT y) ⟨by omega, fun h3 r1 r2 => by
      have e3 := me_nil r2
      subst e3
      exact (nx x y _ hlt hq).2⟩
    refine mt_waC hS oh ot o3 o4 ?_ ?_ ?_ ?_ ?_ ?_ ?_ ?_ ?_ ?_ ?_ ?_
    · intro c h1 g1 g2
      have e1 := me_nil g2
      subst e1
      exact zp_247 oh ot o3 o4 hG.2.1 hH (fun _ => Or.inr (by omega))
    · intro b1 c1 c2 h1 g1 g2
      have e1 := me_nil g2
      subst e1
      exact zp_247 oh ot o3 o4 hG.2.1 hH (fun _ => Or.inl c2)
    · intro b1 b2 c1 c2 c3 h1 g1 g2
      have e1 := me_nil g2
      subst e1
      exact zp_247 oh ot o3 o4 hG.2.1 hH (fun hI => by have := hI.1.1.2.2.2.2.1; omega)
    · intro b1 b2 b3 c1 c2 c3 c4 h1 g1 g2
      have e1 := me_nil g2
      subst e1
      exact zp_247 oh ot o3 o4 hG.2.1 hH (fun hI => by have := hI.1.1.2.2.2.1; omega)
    · intro b1 b2 b3 c1 c2 c3 c4 s k
      have hP := toI c3 c4
      have hI := hP.1
      have hL : wk_L (mi_a h) Y := wk_L_g hL0 (wk_gc_fr hI.2.1 hS0 rfl)
      have hb29 := hI.2.2.2.2.1
      have htop := hI.2.2.1
      rw [wk_stk_pop c2] at htop
      have hcs := wk_cases htop
      dsimp only at hcs
      refine ⟨by omega, fun h1 g1 g2 g3 => ⟨_, zp_u hS0 hT hL hG hP z0 c1 c2 g1 g2 g3 (by omega) rfl (by omega) (by omega), fun v h' ov hq => ?_⟩⟩
      obtain ⟨rfl, hq⟩ := hq
      exact nx175 _ _ h' c1 hq
    · intro b1 b2 b3 c1 c2 c3 c4 s k
      have hP := toI c3 c4
      have hI := hP.1
      have hL : wk_L (mi_a h) Y := wk_L_g hL0 (wk_gc_fr hI.2.1 hS0 rfl)
      have hb29 := hI.2.2.2.2.1
      have htop := hI.2.2.1
      rw [wk_stk_pop c2] at htop
      have hcs := wk_cases htop
      dsimp only at hcs
      refine ⟨by omega, fun h1 g1 g2 g3 => ⟨_, zp_u hS0 hT hL hG hP z0 c1 c2 g1 g2 g3 (by omega) rfl (by omega) (by omega), fun v h' ov hq => ?_⟩⟩
      obtain ⟨rfl, hq⟩ := hq
      exact nx175 _ _ h' c1 hq
    · intro b1 b2 b3 c1 c2 c3 c4 s
      have hP := toI c3 c4
      have hI := hP.1
      have hL : wk_L (mi_a h) Y := wk_L_g hL0 (wk_gc_fr hI.2.1 hS0 rfl)
      have hb29 := hI.2.2.2.2.1
      have htop := hI.2.2.1
      rw [wk_stk_pop c2] at htop
      have hcs := wk_cases htop
      dsimp only at hcs
      refine ⟨by omega, fun h1 g1 g2 g3 => ⟨_, zp_c hS0 hT hL hG hP z0 c1 c2 g1 g2 g3 (by omega) rfl rfl, fun v h' ov hq => ?_⟩⟩
      obtain ⟨rfl, hq⟩ := hq
      exact nx183 _ _ h' c1 hq
    · intro b1 b2 b3 b4 c1 c2 c3 c4 s
      have hP := toI c3 c4
      have hI := hP.1
      have hb29 := hI.2.2.2.2.1
      have htop := hI.2.2.1
      have hst := wk_stk_pop c2
      have es : mi_a h 165 (mi_f h 14029 - 1).toNat = 2 := by omega
      rw [es] at hst
      rw [hst] at htop
      obtain ⟨w1, w2, w3, w4, w5⟩ := wk_out htop
      refine ⟨by omega, fun h1 g1 g2 g3 g4 g5 => ?_⟩
      have e30 : mi_f h1 14030 = mi_f h 14030 := me_f (c := 14030) g5 hS rfl rfl
      have e16 : mi_f h1 14016 = mi_f h 14016 := me_f (c := 14016) g5 hS rfl rfl
      refine (nx _ _ h1 c1 (zp_rest hS0 hG hP z0 hst (Or.inl rfl) g1 g5 rfl (Or.inr (wl_rest hT hI z0 c1 c2 g2 hst (Or.inl rfl) g1 g5 (by decide) ?_ (by omega) (by have := hI.2.2.2.2.2; omega))))).2
      rw [e30, g4]
      exact wk_SI_Z _ _ _ _ w5 (fun i _ => ⟨me_a (k := 168) g5 hS rfl rfl, me_a (k := 169) g5 hS rfl rfl⟩) (by show mi_f h 14016 ≤ mi_f h1 14016; omega)
    · intro b1 b2 b3 b4 b5 c1 c2 c3 c4 s
      have hP := toI c3 c4
      have hI := hP.1
      have hb29 := hI.2.2.2.2.1
      have hp60 := hI.2.2.2.2.2
      have htop := hI.2.2.1
      have hst := wk_stk_pop c2
      have es : mi_a h 165 (mi_f h 14029 - 1).toNat = 3 := by omega
      rw [es] at hst
      rw [hst] at htop
      obtain ⟨w1, w2, w3⟩ := wk_mid htop
      refine ⟨by omega, fun h1 g1 g2 g4 g5 => ?_⟩
      have e30 : mi_f h1 14030 = mi_f h 14030 := me_f (c := 14030) g5 hS rfl rfl
      have e32 : mi_f h1 14032 = mi_f h 14032 := me_f (c := 14032) g5 hS rfl rfl
      have e16 : mi_f h1 14016 = mi_f h 14016 := me_f (c := 14016) g5 hS rfl rfl
      refine (nx _ _ h1 c1 (zp_rest hS0 hG hP z0 hst (Or.inr (Or.inl rfl)) g1 g5 rfl (Or.inr (wl_rest hT hI z0 c1 c2 g2 hst (Or.inr (Or.inl rfl)) g1 g5 (by decide) ?_ (by rw [e32]; exact hI.1.2.2.2.2.2.2.2.2.1) (by omega))))).2
      rw [e30, e32]
      refine wk_middle (wk_SI_Z (Z' := wl_Z h1) _ _ _ _ w3 (fun i hi => ⟨me_a (k := 168) g5 hS rfl rfl, ?_⟩) (by show mi_f h 14016 ≤ mi_f h1 14016; omega)) ?_
      · rw [if_neg (by decide)] at hi
        show mi_a h1 169 i = mi_a h 169 i
        rw [g4, if_neg (by omega)]
      · have w2 : 0 ≤ mi_a h 168 (mi_f h 14030 - 1).toNat ∧ mi_a h 168 (mi_f h 14030 - 1).toNat ≤ mi_f h 14016 := w2
        show 0 ≤ mi_a h1 168 (mi_f h 14030 - 1).toNat ∧ mi_a h1 168 (mi_f h 14030 - 1).toNat ≤ mi_a h1 169 (mi_f h 14030 - 1).toNat ∧ mi_a h1 169 (mi_f h 14030 - 1).toNat ≤ mi_f h1 14016
        rw [g4, if_pos rfl, me_a (k := 168) g5 hS rfl rfl, e16]
        exact ⟨w2.1, w2.2, Int.le_refl _⟩
    · intro b1 b2 b3 c1 c2 c3 c4 s
      have hP := toI c3 c4
      have hI := hP.1
      have hb29 := hI.2.2.2.2.1
      have hp60 := hI.2.2.2.2.2
      have htop := hI.2.2.1
      have hst := wk_stk_pop c2
      have es : mi_a h 165 (mi_f h 14029 - 1).toNat = 4 := by omega
      rw [es] at hst
      rw [hst] at htop
      obtain ⟨w1, w2, w3⟩ := wk_turn htop
      have w2 : 0 ≤ mi_a h 168 (mi_f h 14030 - 1).toNat ∧ mi_a h 168 (mi_f h 14030 - 1).toNat ≤ mi_a h 169 (mi_f h 14030 - 1).toNat ∧ mi_a h 169 (mi_f h 14030 - 1).toNat ≤ mi_f h 14016 := w2
      refine ⟨by omega, fun h1 g1 g2 g3 => ?_⟩
      have e30 : mi_f h1 14030 = mi_f h 14030 := me_f (c := 14030) g3 hS rfl rfl
      have e16 : mi_f h1 14016 = mi_f h 14016 := me_f (c := 14016) g3 hS rfl rfl
      have e168 : mi_a h1 168 (mi_f h 14030 - 1).toNat = mi_a h 168 (mi_f h 14030 - 1).toNat := me_a (k := 168) g3 hS rfl rfl
      have e169 : mi_a h1 169 (mi_f h 14030 - 1).toNat = mi_a h 169 (mi_f h 14030 - 1).toNat := me_a (k := 169) g3 hS rfl rfl
      refine ⟨_, me_swap g1 (by omega) (by omega) (by rw [e30, e168]; exact w2.1) (by rw [e30, e168, e169]; exact w2.2.1) (by rw [e30, e169, e16]; exact w2.2.2), fun v h' ov hq => ?_⟩
      obtain ⟨rfl, q1, q2, q3⟩ := hq
      have hF : ab_Fr ([(14029, 14031), (18560, 18561), (20480, 20481)]) h h' := (g3.wide (fun c hc => ab_swr_ok (by decide) hc)).trans (q2.wide (fun c hc => ab_swr_ok (by decide) hc))
      have f29 : mi_f h' 14029 = mi_f h 14029 - 1 := (me_f (c := 14029) q2 g1 rfl rfl).trans g2
      have f16 : mi_f h' 14016 = mi_f h 14016 := me_f (c := 14016) hF hS rfl rfl
      have f32 : mi_f h' 14032 = mi_f h 14032 := me_f (c := 14032) hF hS rfl rfl
      have f30 : mi_f h' 14030 = mi_f h 14030 - 1 := by omega
      refine nx208 _ _ h' c1 (zp_rest hS0 hG hP z0 hst (Or.inr (Or.inr rfl)) q1 hF rfl (Or.inr (wl_rest hT hI z0 c1 c2 f29 hst (Or.inr (Or.inr rfl)) q1 hF (by decide) ?_ (by rw [f32]; exact hI.1.2.2.2.2.2.2.2.2.1) (by omega))))
      rw [f30, f32]
      exact wk_SI_Z _ _ _ _ w3 (fun i _ => ⟨me_a (k := 168) hF hS rfl rfl, me_a (k := 169) hF hS rfl rfl⟩) (by show mi_f h 14016 ≤ mi_f h' 14016; omega)
    · intro b1 b2 b3 c1 c2 c3 c4 s
      have hP := toI c3 c4
      have hI := hP.1
      have hL : wk_L (mi_a h) Y := wk_L_g hL0 (wk_gc_fr hI.2.1 hS0 rfl)
      have hb29 := hI.2.2.2.2.1
      have htop := hI.2.2.1
      rw [wk_stk_pop c2] at htop
      have hcs := wk_cases htop
      dsimp only at hcs
      refine ⟨by omega, fun h1 g1 g2 g3 => ⟨_, zp_a hS0 hT hL hG hP z0 c1 c2 g1 g2 g3 (by omega) rfl rfl, fun v h' ov hq => ?_⟩⟩
      obtain ⟨rfl, hq⟩ := hq
      exact nx218 _ _ h' c1 hq
    · intro b1 b2 b3 b4 c1 c2 c3 c4 s
      exfalso
      have hP := toI c3 c4
      have hI := hP.1
      have htop := hI.2.2.1
      rw [wk_stk_pop c2] at htop
      have hcs := wk_cases htop
      dsimp only at hcs
      omega
/-- from the begin: nothing is printed yet -/
theorem me_walky {n : Nat} {h : sm_H} (hS : ab_Sh sx_sk h) (hL : wk_L (mi_a h) Y) (hr : wk_Lrule Y (mi_a h 114 0)) (hN : tp_N (mi_a h) (wk_K 2 h) (wk_V 2 h) n) (hn : n ≤ 100) (hG : zp_G Y h N sN LN) (ho : mi_f h 14037 = 0 ∧ mi_f h 14045 = 0 ∧ mi_f h 14046 = 0 ∧ mi_f h 14036 = 0) : me_E (d + 7) 206 0 [some (.inr (.inr 109)), some (.inl (2 : Int)), none, none, none] [] h (zp_End h (zp_f h LN (some ([], 0, 0, 0)))) := by
  have oh : mi_in 2 := ⟨by decide, by decide⟩
  have hT := tp_T (Y := Y) hS hN hn
  refine mt_waA hS oh ?_
  intro h1 g1 f16 f28 f29 f30 f31 f32 f33 f34 f44 g2
  have est : wk_stk h1 = [] := by unfold wk_stk; rw [f29]; rfl
  have en : wk_n 2 h1 = 0 := f33
  have e36 : mi_f h1 14036 = 0 := (me_f (c := 14036) g2 hS rfl rfl).trans ho.2.2.2
  have R1 : oR h1 (some ([], 0, 0, 0)) := Or.inr ⟨_, rfl, f44, (me_f (c := 14037) g2 hS rfl rfl).trans ho.1, fun k hk => absurd hk (Nat.not_lt_zero _), (me_f (c := 14045) g2 hS rfl rfl).trans ho.2.1, (me_f (c := 14046) g2 hS rfl rfl).trans ho.2.2.1, e36⟩
  refine ⟨_, (me_enter (d := d + 4) 2 g1 f28 (by decide) (by decide) (by omega) (by omega) (by omega) (by omega) (fun _ => by omega)).and (me_entero (d := d + 4) (o := ([], 0, 0, 0)) ⟨g1, f28, R1, by omega, by omega, by omega, by omega, by omega, by omega, by omega⟩ (by omega) (by decide) (by decide)), fun v h2 ov hq => ?_⟩
  obtain ⟨⟨rfl, q1, q2, q3, q4⟩, -, -, y1, y2, y3⟩ := hq
  have hF : ab_Fr wr_WK h h2 := (g2.wide (fun c hc => ab_swr_ok (by decide) hc)).trans (q2.wide (fun c hc => ab_swr_ok (by decide) hc))
  refine mt_waB q1 oh ?_
  intro h3 r1 r2
  have e3 := me_nil r2
  subst e3
  refine zp_loop hT hL hS hG oh 40001 0 none none _ (by decide) (by decide) (by decide) (fun v e => by cases e) (fun v e => by cases e) ?_
  rcases q4 with q4 | ⟨q4, q5, q6, q7, q8, q9⟩
  · exfalso
    have := (oR_len y1).1
    omega
  · refine Or.inr ?_
    obtain ⟨v1, v2, v3, v4⟩ := q9
    rw [est] at q8
    have e114 : mi_a h1 114 (Int.toNat 0) = mi_a h 114 0 := me_a (k := 114) g2 hS rfl rfl
    rw [e114] at q8
    have p30 : mi_f h3 14030 = 0 := (me_f (c := 14030) q2 g1 rfl rfl).trans f30
    have p28 : mi_f h3 14028 = 2 := (me_f (c := 14028) q2 g1 rfl rfl).trans f28
    have ul : wk_ul [(1, mi_a h 114 0, 0), (2, 1, 0)] = 1 := by
      rw [wk_ul_c (by decide)]
      rfl
    have n1 : wk_n 2 h3 = 1 := by omega
    refine ⟨⟨⟨q1, p28, Or.inr (Or.inr rfl), q4, by omega, fun e => absurd e (by decide), by omega, by omega, by omega, by rw [q8, ul]; omega, by omega⟩, hF, ?_, ?_, by omega, by omega⟩, (tr_0 (mi_a h)).2, LN, ([], 0, 0, 0), N, ?_, Int.zero_add _, ?_, rfl, y1, y2, by omega⟩
    · obtain ⟨l1, l2, l3⟩ := hr
      have hd := (hL.2.2.2 _ l1 l2).1
      rw [q8, p30, q6, f32]
      refine wk_pform ⟨l1, l2, ?_, by decide, by omega, by decide, by decide⟩ (wk_pout (Or.inr rfl) (by decide) (by decide) (by decide) ?_)
      · show (1 : Int) + _ - 4 ≤ _
        omega
      · unfold wk_SI
        exact ⟨rfl, rfl, by decide⟩
    · unfold tp_I
      rw [q8, n1]
      rfl
    · rw [q8]
      exact hG.1
    · show (1 : Int) = wk_n 2 h3
      omega
end ZPL
/-! print of the reference, exactly -/
section DMG
variable {g g' : wk_g} {V : Int → Int}
theorem dm_sg_g (hg : wk_gc g g') {l u : Int} {r : List wk_E} {s : gm_S} : dm_sg l g' V u r s = dm_sg l g V u r s := by
  unfold dm_sg
  rw [hg 119 (by decide), hg 120 (by decide), hg 115 (by decide), pm_en_g hg]
theorem dm_st_g (hg : wk_gc g g') {l : Int} : dm_st g' V l = dm_st g V l := by
  funext e r s
  unfold dm_st dm_u dm_fo dm_ag
  simp only [dm_sg_g hg, hg 122 (by decide), hg 130 (by decide), hg 126 (by decide), wk_it_g hg, wk_alt_g hg, hg 129 (by decide)]
theorem dv_g (hg : wk_gc g g') : dv g' V = dv g V := by
  funext e s
  unfold dv dv_lf
  simp only [hg 122 (by decide), hg 119 (by decide)]
theorem ofd_g {Lr : Nat → Int} (hg : wk_gc g g') : ∀ (L : List (Int × Int)) (x : Option ox), ofd Lr g' L x = ofd Lr g L x := by
  intro L
  induction L with
  | nil => intro x; rfl
  | cons p L ih =>
    intro x
    show ofd Lr g' L _ = ofd Lr g L _
    rw [ih, hg 119 (by decide), hg 120 (by decide)]
end DMG
theorem zp_G_fr {Y : wk_Y} {h h' : sm_H} {N : Nat} {sN : gm_S} {LN : List (Int × Int)} {wr : List (Nat × Nat)} (hG : zp_G Y h N sN LN) (hS : ab_Sh sx_sk h) (hF : ab_Fr wr h h') (hw : wk_gk.all (fun k => !ab_in wr (k * 128)) = true) (w3 : ab_in wr 20736 = false) (w4 : ab_in wr 14976 = false) (w5 : ab_in wr 15104 = false) : zp_G Y h' N sN LN ∧ ∀ x, zp_f h' LN x = zp_f h LN x := by
  have hg : wk_gc (mi_a h) (mi_a h') := wk_gc_fr hF hS hw
  have ev : yv h' = yv h := funext fun c => by unfold yv; rw [me_b (k := 162) hF hS rfl w3]
  have e4 : ∀ i, mi_a h' 117 i = mi_a h 117 i := fun i => me_a (k := 117) hF hS rfl w4
  have e5 : ∀ i, mx_b h' 118 i = mx_b h 118 i := fun i => me_b (k := 118) hF hS rfl w5
  have eL : tq_L h' = tq_L h := funext fun k => by unfold tq_L; rw [e5, e4]
  have e0 : tr_0 (mi_a h') = tr_0 (mi_a h) := by unfold tr_0; rw [hg 114 (by decide)]
  obtain ⟨k1, k2, k3, k4, k5, k6⟩ := hG
  refine ⟨⟨?_, k2, ?_, k4, fun u u0 u1 => px_W_g hg (k5 u u0 u1), fun u u0 u1 q => ?_⟩, fun x => ?_⟩
  · rw [ev, dm_st_g hg, dv_g hg, e0]
    exact k1
  · rw [ev]
    exact k3
  · rw [hg 119 (by decide)] at q
    rw [hg 120 (by decide), e5, e4]
    exact k6 u u0 u1 q
  · unfold zp_f
    rw [eL, ofd_g hg]
def prx_N : List (Nat × Nat) := [(13952, 13953), (14016, 14017), (14028, 14038), (14044, 14048), (18560, 18561), (20224, 20481), (20864, 20865), (21120, 21761)]
def prx_Y : List (Nat × Nat) := (13955, 13956) :: (14336, 14337) :: prx_N
/-- what print does: nothing to the output, or what the leaves print -/
def prx_X (h : sm_H) (R : Option ox) (w : Option mi_V) (h' : sm_H) : Prop := ab_Sh sx_sk h' ∧ (mi_f h 14015 = 0 → mi_f h' 13952 = 1 ∧ ab_Fr prx_N h h') ∧ (mi_f h 14015 ≠ 0 → (R = none ∧ mi_f h' 13952 = 2 ∧ ab_Fr prx_N h h') ∨ ∃ o, R = some o ∧ mi_f h' 13952 = 0 ∧ w = some (.inl (o.1.length : Int)) ∧ mi_f h' 13955 = (o.1.length : Int) ∧ o.1.length ≤ 160 ∧ (∀ k : Nat, k < o.1.length → o.1[k]? = some (mi_a h' 112 k)) ∧ ab_Fr prx_Y h h')
section PRX2
variable {d : Nat} {h : sm_H}
theorem me_printx {R : Option ox} (hS : ab_Sh sx_sk h) (hY : mi_f h 14015 ≠ 0 → ∃ Y N sN LN n, wk_L (mi_a h) Y ∧ wk_Lrule Y (mi_a h 114 0) ∧ tp_N (mi_a h) (wk_K 2 h) (wk_V 2 h) n ∧ n ≤ 100 ∧ zp_G Y h N sN LN ∧ R = zp_f h LN (some ([], 0, 0, 0))) : me_E (d + 20) 205 0 [some (.inr (.inr 109)), none] [] h (prx_X h R) := by
  refine mt_prA hS ?_ ?_
  · intro b c h2 g1 g2 g3 g4 g5 g6 g7
    obtain ⟨Y, N, sN, LN, n, l1, l2, l3, l4, l5, l6⟩ := hY c
    have hg : wk_gc (mi_a h) (mi_a h2) := wk_gc_fr g7 hS rfl
    obtain ⟨z1, z2⟩ := zp_G_fr l5 hS g7 rfl rfl rfl rfl
    have eK : wk_K 2 h2 = wk_K 2 h := funext fun k => by unfold wk_K; rw [if_pos rfl, if_pos rfl]; exact me_a (k := 155) g7 hS rfl rfl
    have eV : wk_V 2 h2 = wk_V 2 h := funext fun k => by unfold wk_V; rw [if_pos rfl, if_pos rfl, me_b (k := 162) g7 hS rfl rfl]
    have e14 : mi_a h2 114 0 = mi_a h 114 0 := hg 114 (by decide) 0
    have hN2 : tp_N (mi_a h2) (wk_K 2 h2) (wk_V 2 h2) n := by
      rw [eK, eV]
      exact tp_N_g hg l3
    refine ⟨_, me_walky (d := d + 12) (Y := Y) g1 (wk_L_g l1 hg) (by rw [e14]; exact l2) hN2 l4 z1 ⟨g4, g5, g6, g3⟩, fun w h3 ow hq => ?_⟩
    obtain ⟨rfl, q1, q2, q3⟩ := hq
    rw [z2, ← l6] at q3
    have F3 : ab_Fr prx_N h h3 := (g7.wide (fun c hc => ab_swr_ok (by decide) hc)).trans (q2.wide (fun c hc => ab_swr_ok (by decide) hc))
    refine mt_prB q1 ?_ ?_
    · intro b1 c1 h4 r1 r2 r3
      have F4 : ab_Fr prx_Y h h4 := (F3.wide (fun c hc => ab_swr_ok (by decide) hc)).trans (r3.wide (fun c hc => ab_swr_ok (by decide) hc))
      rcases q3 with ⟨-, q3⟩ | ⟨o, q3, q4, o1, o2, -⟩
      · exfalso; omega
      have p37 : mi_f h4 14037 = (o.1.length : Int) := (me_f (c := 14037) r3 q1 rfl rfl).trans o1
      have p170 : ∀ k : Nat, k < o.1.length → o.1[k]? = some (mi_a h4 170 k) := fun k hk => by
        rw [me_a (k := 170) r3 q1 rfl rfl]
        exact o2 k hk
      have b37 := me_fb (c := 14037) r1 rfl
      have cp : ∀ (J : Nat) (zk : Int) (h5 : sm_H), (o.1.length : Int) - zk < J → 0 ≤ zk → zk ≤ (o.1.length : Int) → ab_Sh sx_sk h5 → ab_Fr [(14336, 14337)] h4 h5 → (∀ k : Nat, (k : Int) < zk → mi_a h5 112 k = mi_a h4 170 k) → me_E (d + 20) 205 77 [some (.inr (.inr 109)), some (.inl zk)] [] h5 (prx_X h R) := by
        intro J
        induction J with
        | zero => intro zk h5 hN _ _; exfalso; omega
        | succ J ih =>
          intro zk h5 hN k0 k1 s1 s2 s3
          have s37 : mi_f h5 14037 = (o.1.length : Int) := (me_f (c := 14037) s2 r1 rfl rfl).trans p37
          refine mt_prC s1 ⟨by omega, by omega⟩ ?_ ?_
          · intro b2 c2
            refine ⟨by omega, fun h6 t1 t2 t3 => ⟨t1, fun q => absurd q c, fun _ => Or.inr ⟨o, q3, ?_, by rw [s37], t2.trans s37, by omega, fun k hk => ?_, (F4.trans (s2.wide (fun c hc => ab_swr_ok (by decide) hc))).trans (t3.wide (fun c hc => ab_swr_ok (by decide) hc))⟩⟩⟩
            · rw [me_f (c := 13952) t3 s1 rfl rfl, me_f (c := 13952) s2 r1 rfl rfl]
              exact r2
            · rw [me_a (k := 112) t3 s1 rfl rfl, s3 k (by omega)]
              exact p170 k hk
          · intro b2 c2
            refine ⟨by omega, fun h6 t1 t2 t3 => ?_⟩
            refine ih (zk + 1) h6 (by omega) (by omega) (by omega) t1 (s2.trans t3) (fun k hk => ?_)
            rw [t2]
            by_cases e : k = zk.toNat
            · rw [if_pos e, me_a (k := 170) s2 r1 rfl rfl, e]
            · rw [if_neg e]
              exact s3 k (by omega)
      exact cp 200 0 h4 (by omega) (by decide) (by omega) r1 ab_Fr.refl (fun k hk => by exfalso; omega)
    · intro b1 c1 h4 r1 r2 r3
      rcases q3 with ⟨q3, -⟩ | ⟨o, -, q4, -⟩
      · exact ⟨r1, fun q => absurd q c, fun _ => Or.inl ⟨q3, r2, F3.trans (r3.wide (fun c hc => ab_swr_ok (by decide) hc))⟩⟩
      · exact absurd q4 c1
  · intro b c h1 g1 g2 g3
    exact ⟨g1, fun _ => ⟨g2, g3.wide (fun c hc => ab_swr_ok (by decide) hc)⟩, fun q => absurd c q⟩
end PRX2
