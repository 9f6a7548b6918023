/-! WHAT IS PRINTED, purely: the characters, whether a blank, a line is due, how deep; the reference's write, between, layout -/
abbrev ox : Type := List Int × Int × Int × Int
def ow (c : Int) (C : List Int) : Option (List Int) := if 160 ≤ C.length then none else some (C ++ [c])
def owl : List Int → List Int → Option (List Int)
  | [], C => some C
  | c :: W, C => (ow c C).bind (owl W)
def wy (c : Int) : Bool := decide ((97 ≤ c ∧ c ≤ 122) ∨ (48 ≤ c ∧ c ≤ 57) ∨ (65 ≤ c ∧ c ≤ 90))
def olc (C : List Int) : Int := C.getLast?.getD 0
def obw (c : Int) (o : ox) : Option (List Int) := if o.1 ≠ [] ∧ o.2.2.1 ≠ 0 then (ow 10 o.1).bind (owl (List.replicate (2 * o.2.2.2).toNat 32)) else if o.1 ≠ [] ∧ (o.2.1 ≠ 0 ∨ (wy (olc o.1) = true ∧ wy c = true)) then ow 32 o.1 else some o.1
def ob (c : Int) (o : ox) : Option ox := (obw c o).map (fun C => (C, 0, 0, o.2.2.2))
def owx (c : Int) (o : ox) : Option ox := (ow c o.1).map (fun C => (C, o.2))
def owlx (W : List Int) (o : ox) : Option ox := (owl W o.1).map (fun C => (C, o.2))
/-- a token -/
def otk (W : List Int) (o : ox) : Option ox := (ob (W.headD 0) o).bind (owlx W)
/-- what is no token -/
def oly (s : Int) (o : ox) : ox := (o.1, if s = 4 then 1 else o.2.1, if s = 5 then 1 else o.2.2.1, if s = 6 then o.2.2.2 + 1 else if s = 7 ∧ 0 < o.2.2.2 then o.2.2.2 - 1 else o.2.2.2)
def oRo (h : sm_H) (o : ox) : Prop := mi_f h 14037 = (o.1.length : Int) ∧ (∀ k : Nat, k < o.1.length → o.1[k]? = some (mi_a h 170 k)) ∧ mi_f h 14045 = o.2.1 ∧ mi_f h 14046 = o.2.2.1 ∧ mi_f h 14036 = o.2.2.2
def oR (h : sm_H) (x : Option ox) : Prop := (x = none ∧ mi_f h 14044 = 1) ∨ ∃ o, x = some o ∧ mi_f h 14044 = 0 ∧ oRo h o
def wr_p3 : List (Nat × Nat) := [(14037, 14038), (14044, 14045), (21760, 21761)]
section OUT
variable {h : sm_H} {d : Nat} {x : Option ox}
theorem oR_fr {h' : sm_H} {wr : List (Nat × Nat)} (hR : oR h x) (hF : ab_Fr wr h h') (hS : ab_Sh sx_sk h) (hw : (ab_in wr 14036 || ab_in wr 14037 || ab_in wr 14044 || ab_in wr 14045 || ab_in wr 14046 || ab_in wr 21760) = false) : oR h' x := by
  simp only [Bool.or_eq_false_iff] at hw
  obtain ⟨⟨⟨⟨⟨w1, w2⟩, w3⟩, w4⟩, w5⟩, w6⟩ := hw
  rcases hR with ⟨a, b⟩ | ⟨o, a, b, c1, c2, c3, c4, c5⟩
  · exact Or.inl ⟨a, (me_f (c := 14044) hF hS rfl w3).trans b⟩
  · exact Or.inr ⟨o, a, (me_f (c := 14044) hF hS rfl w3).trans b, (me_f (c := 14037) hF hS rfl w2).trans c1, fun k hk => by rw [me_a (k := 170) hF hS rfl w6]; exact c2 k hk, (me_f (c := 14045) hF hS rfl w4).trans c3, (me_f (c := 14046) hF hS rfl w5).trans c4, (me_f (c := 14036) hF hS rfl w1).trans c5⟩
theorem me_wrx {zc : Int} (hS : ab_Sh sx_sk h) (oc : mi_in zc) (hR : oR h x) : me_E d 220 0 [some (.inr (.inr 109)), some (.inl zc)] [] h (fun w h' => w = none ∧ ab_Sh sx_sk h' ∧ ab_Fr wr_p3 h h' ∧ oR h' (x.bind (owx zc))) := by
  rcases hR with ⟨rfl, b⟩ | ⟨o, rfl, b, c1, c2, c3, c4, c5⟩
  · refine mt_ywr hS oc ?_ (by intros; exfalso; omega) (by intros; exfalso; omega)
    intro b1 c h1 g1 g2 g3
    exact ⟨rfl, g1, g3.wide (fun c hc => ab_swr_ok (by decide) hc), Or.inl ⟨rfl, g2⟩⟩
  · refine mt_ywr hS oc (by intros; exfalso; omega) ?_ ?_
    · intro b1 b2 c c'
      refine ⟨by omega, fun h1 g1 g2 g3 g4 g5 => ⟨rfl, g1, g5, Or.inr ⟨(o.1 ++ [zc], o.2), ?_, g3, ?_, fun k hk => ?_, (me_f (c := 14045) g5 hS rfl rfl).trans c3, (me_f (c := 14046) g5 hS rfl rfl).trans c4, (me_f (c := 14036) g5 hS rfl rfl).trans c5⟩⟩⟩
      · show owx zc o = _
        unfold owx ow
        rw [if_neg (by omega)]
        rfl
      · rw [g2, c1, List.length_append]
        rfl
      · dsimp only at hk ⊢
        rw [List.length_append] at hk
        have hk : k < o.1.length + 1 := hk
        rw [g4]
        by_cases e : k = o.1.length
        · rw [if_pos (by omega), e, List.getElem?_append_right (Nat.le_refl _), Nat.sub_self]
          rfl
        · rw [if_neg (by omega), List.getElem?_append_left (by omega)]
          exact c2 k (by omega)
    · intro b1 b2 c c' h1 g1 g2 g3
      refine ⟨rfl, g1, g3.wide (fun c hc => ab_swr_ok (by decide) hc), Or.inl ⟨?_, g2⟩⟩
      show owx zc o = none
      unfold owx ow
      rw [if_pos (by omega)]
      rfl
theorem me_wyx {zc : Int} (hS : ab_Sh sx_sk h) (oc : mi_in zc) : me_E (d + 1) 221 0 [some (.inl zc)] [] h (fun w h' => h' = h ∧ ∃ z, w = some (.inl z) ∧ mi_in z ∧ (z ≠ 0 ↔ wy zc = true)) := by
  have y0 : ¬ ((97 ≤ zc ∧ zc ≤ 122) ∨ (48 ≤ zc ∧ zc ≤ 57) ∨ (65 ≤ zc ∧ zc ≤ 90)) → ((0 : Int) ≠ 0 ↔ wy zc = true) := fun q => by
    unfold wy
    rw [decide_eq_true_eq]
    exact ⟨fun e => absurd rfl e, fun e => absurd e q⟩
  have y1 : ((97 ≤ zc ∧ zc ≤ 122) ∨ (48 ≤ zc ∧ zc ≤ 57) ∨ (65 ≤ zc ∧ zc ≤ 90)) → ((1 : Int) ≠ 0 ↔ wy zc = true) := fun q => by
    unfold wy
    rw [decide_eq_true_eq]
    exact ⟨fun _ => q, fun _ => by decide⟩
  refine mt_ywy hS oc ?_ ?_ ?_ ?_ ?_ ?_ ?_ ?_ ?_ ?_ ?_ ?_ ?_ ?_ ?_
  all_goals intros
  all_goals rename_i g1 g2
  all_goals first
    | exact ⟨me_nil g2, 0, rfl, ⟨by decide, by decide⟩, y0 (by omega)⟩
    | exact ⟨me_nil g2, 1, rfl, ⟨by decide, by decide⟩, y1 (by omega)⟩
theorem be98 {zc : Int} {q2 : Option mi_V} (hS : ab_Sh sx_sk h) (oc : mi_in zc) (o2 : ∀ v, q2 = some v → mi_ok v) (hR : oR h x) : me_E (d + 2) 219 98 [some (.inr (.inr 109)), some (.inl zc), q2] [] h (fun w h' => w = none ∧ ab_Sh sx_sk h' ∧ ab_Fr [(14045, 14047)] h h' ∧ oR h' (x.map (fun o => (o.1, 0, 0, o.2.2.2)))) := by
  refine mt_ybH hS oc o2 ?_
  intro h1 g1 g2 g3 g4
  refine ⟨rfl, g1, g4, ?_⟩
  rcases hR with ⟨rfl, b⟩ | ⟨o, rfl, b, c1, c2, c3, c4, c5⟩
  · exact Or.inl ⟨rfl, (me_f (c := 14044) g4 hS rfl rfl).trans b⟩
  · exact Or.inr ⟨_, rfl, (me_f (c := 14044) g4 hS rfl rfl).trans b, (me_f (c := 14037) g4 hS rfl rfl).trans c1, fun k hk => by rw [me_a (k := 170) g4 hS rfl rfl]; exact c2 k hk, g2, g3, (me_f (c := 14036) g4 hS rfl rfl).trans c5⟩
theorem be22 {zc i b l : Int} (oc : mi_in zc) (i0 : 0 ≤ i) (i1 : i ≤ 100000) : ∀ (m : Nat) (zk : Int) (h : sm_H) (z : Option (List Int)), 2 * i - zk = m → 0 ≤ zk → ab_Sh sx_sk h → mi_f h 14036 = i → oR h (z.map (fun C => (C, b, l, i))) → me_E (d + 2) 219 22 [some (.inr (.inr 109)), some (.inl zc), some (.inl zk)] [] h (fun w h' => w = none ∧ ab_Sh sx_sk h' ∧ ab_Fr wr_pr h h' ∧ oR h' ((z.bind (owl (List.replicate m 32))).map (fun C => (C, 0, 0, i)))) := by
  intro m
  induction m with
  | zero =>
    intro zk h z hm k0 hS hi hR
    have ok : mi_in zk := ⟨by omega, by omega⟩
    refine mt_ybC hS oc ok ?_ (by intros; exfalso; omega) (by intros; exfalso; omega)
    intro b1 c
    refine ⟨by omega, fun h1 g1 g2 => ?_⟩
    have e := me_nil g2
    subst e
    refine (be98 g1 oc (me_oi ok) hR).imp (fun w h' hq => ⟨hq.1, hq.2.1, hq.2.2.1.wide (fun c hc => ab_swr_ok (by decide) hc), ?_⟩)
    have := hq.2.2.2
    cases z with
    | none => exact this
    | some C => exact this
  | succ m ih =>
    intro zk h z hm k0 hS hi hR
    have ok : mi_in zk := ⟨by omega, by omega⟩
    refine mt_ybC hS oc ok (by intros; exfalso; omega) ?_ ?_
    · intro b1 b2 c c'
      refine ⟨by omega, fun h1 g1 g2 => ?_⟩
      have e := me_nil g2
      subst e
      have hz : z = none := by
        rcases hR with ⟨a, -⟩ | ⟨o, -, a, -⟩
        · cases z with
          | none => rfl
          | some C => cases a
        · exact absurd a c'
      subst hz
      refine (be98 g1 oc (me_oi ok) hR).imp (fun w h' hq => ⟨hq.1, hq.2.1, hq.2.2.1.wide (fun c hc => ab_swr_ok (by decide) hc), hq.2.2.2⟩)
    · intro b1 b2 c c'
      refine ⟨by omega, fun h1 g1 g2 => ?_⟩
      have e := me_nil g2
      subst e
      refine ⟨_, me_wrx g1 ⟨by decide, by decide⟩ hR, fun w h2 hw hq => ?_⟩
      obtain ⟨rfl, q1, q2, q3⟩ := hq
      refine mt_ybD q1 oc ok ?_
      refine ⟨by omega, fun h3 r1 r2 => ?_⟩
      have e := me_nil r2
      subst e
      have hz : ∃ C, z = some C := by
        rcases hR with ⟨-, a⟩ | ⟨o, a, -⟩
        · exfalso; omega
        · cases z with
          | none => cases a
          | some C => exact ⟨C, rfl⟩
      obtain ⟨C, rfl⟩ := hz
      have e3 : ((some C).map (fun C => ((C, b, l, i) : ox))).bind (owx 32) = (ow 32 C).map (fun C => (C, b, l, i)) := by
        show owx 32 (C, b, l, i) = _
        unfold owx
        rfl
      rw [e3] at q3
      refine (ih (zk + 1) h3 (ow 32 C) (by omega) (by omega) q1 ((me_f (c := 14036) q2 g1 rfl rfl).trans hi) q3).imp (fun w h' hq => ⟨hq.1, hq.2.1, (q2.wide (fun c hc => ab_swr_ok (by decide) hc)).trans hq.2.2.1, ?_⟩)
      exact hq.2.2.2
theorem oR_len {o : ox} (hR : oR h (some o)) : mi_f h 14044 = 0 ∧ oRo h o := by
  rcases hR with ⟨a, -⟩ | ⟨o', a, b, c⟩
  · cases a
  · injection a with a
    subst a
    exact ⟨b, c⟩
theorem oR_no (hR : oR h none) : mi_f h 14044 = 1 := by
  rcases hR with ⟨-, a⟩ | ⟨o', a, -⟩
  · exact a
  · cases a
theorem me_bex {zc : Int} (hS : ab_Sh sx_sk h) (oc : mi_in zc) (i0 : 0 ≤ mi_f h 14036) (i1 : mi_f h 14036 ≤ 100000) (hR : oR h x) : me_E (d + 2) 219 0 [some (.inr (.inr 109)), some (.inl zc), none] [] h (fun w h' => w = none ∧ ab_Sh sx_sk h' ∧ ab_Fr wr_pr h h' ∧ oR h' (x.bind (ob zc))) := by
  -- from 98 on
  have f98 : ∀ (h1 : sm_H) (y : Option ox), ab_Sh sx_sk h1 → ab_Fr wr_pr h h1 → oR h1 y → y.map (fun o => ((o.1, 0, 0, o.2.2.2) : ox)) = x.bind (ob zc) → me_E (d + 2) 219 98 [some (.inr (.inr 109)), some (.inl zc), none] [] h1 (fun w h' => w = none ∧ ab_Sh sx_sk h' ∧ ab_Fr wr_pr h h' ∧ oR h' (x.bind (ob zc))) := by
    intro h1 y g1 g2 g3 g4
    refine (be98 g1 oc me_on g3).imp (fun w h' hq => ⟨hq.1, hq.2.1, g2.trans (hq.2.2.1.wide (fun c hc => ab_swr_ok (by decide) hc)), ?_⟩)
    rw [← g4]
    exact hq.2.2.2
  -- a blank is written
  have wr98 : ∀ (h1 : sm_H), h1 = h → (∀ o, x = some o → obw zc o = ow 32 o.1) → ∃ Q1, me_E (d + 1) 220 0 (mi_entry 2 [.inr (.inr 109), .inl ((32 : Int))]) [] h1 Q1 ∧ ∀ w h2, (∀ x, w = some x → mi_ok x) → Q1 w h2 → me_E (d + 2) 219 98 [some (.inr (.inr 109)), some (.inl zc), none] (mi_back w []) h2 (fun w h' => w = none ∧ ab_Sh sx_sk h' ∧ ab_Fr wr_pr h h' ∧ oR h' (x.bind (ob zc))) := by
    intro h1 e hx
    subst e
    refine ⟨_, me_wrx hS ⟨by decide, by decide⟩ hR, fun w h2 hw hq => ?_⟩
    obtain ⟨rfl, q1, q2, q3⟩ := hq
    refine f98 h2 _ q1 (q2.wide (fun c hc => ab_swr_ok (by decide) hc)) q3 ?_
    cases x with
    | none => rfl
    | some o =>
      show (owx 32 o).map _ = ob zc o
      unfold owx ob
      rw [hx o rfl]
      cases ow 32 o.1 with
      | none => rfl
      | some C => rfl
  -- nothing is written
  have no98 : (∀ o, x = some o → obw zc o = some o.1) → ∀ h1, ab_Sh sx_sk h1 → ab_Fr [] h h1 → me_E (d + 2) 219 98 [some (.inr (.inr 109)), some (.inl zc), none] [] h1 (fun w h' => w = none ∧ ab_Sh sx_sk h' ∧ ab_Fr wr_pr h h' ∧ oR h' (x.bind (ob zc))) := by
    intro hx h1 g1 g2
    have e := me_nil g2
    subst e
    refine f98 h1 x g1 ab_Fr.refl hR ?_
    cases x with
    | none => rfl
    | some o =>
      show _ = ob zc o
      unfold ob
      rw [hx o rfl]
      rfl
  -- from 54 on
  have f54 : (∀ o, x = some o → ¬ (o.1 ≠ [] ∧ o.2.2.1 ≠ 0)) → ∀ h1, ab_Sh sx_sk h1 → ab_Fr [] h h1 → me_E (d + 2) 219 54 [some (.inr (.inr 109)), some (.inl zc), none] [] h1 (fun w h' => w = none ∧ ab_Sh sx_sk h' ∧ ab_Fr wr_pr h h' ∧ oR h' (x.bind (ob zc))) := by
    intro hx h1 g1 g2
    have e := me_nil g2
    subst e
    refine mt_ybE g1 oc ?_ ?_ ?_
    · intro b c
      refine no98 (fun o ho => ?_)
      subst ho
      obtain ⟨-, c1, -⟩ := oR_len hR
      have e0 : o.1 = [] := List.length_eq_zero_iff.mp (by omega)
      unfold obw
      rw [if_neg (hx o rfl), if_neg (fun q => q.1 e0)]
    · intro b b2 c c2 h2 r1 r2
      have e := me_nil r2
      subst e
      refine wr98 _ rfl (fun o ho => ?_)
      subst ho
      obtain ⟨-, c1, -, c3, -⟩ := oR_len hR
      have e0 : o.1 ≠ [] := fun q => by rw [q] at c1; have : (([] : List Int).length : Int) = 0 := rfl; omega
      unfold obw
      rw [if_neg (hx o rfl), if_pos ⟨e0, Or.inl (by rw [← c3]; exact c2)⟩]
    · intro b b2 c c2
      refine ⟨by omega, fun h2 r1 r2 => ?_⟩
      have e := me_nil r2
      subst e
      refine ⟨_, me_wyx r1 (mi_inT _), fun w h3 hw hq => ?_⟩
      obtain ⟨rfl, z, rfl, oz, hz⟩ := hq
      have hol : ∀ o, x = some o → o.1 ≠ [] ∧ olc o.1 = mi_a h3 170 (mi_f h3 14037 - 1).toNat ∧ o.2.1 = 0 := fun o ho => by
        subst ho
        obtain ⟨-, c1, c2', c3, -⟩ := oR_len hR
        have e0 : o.1 ≠ [] := fun q => by rw [q] at c1; have : (([] : List Int).length : Int) = 0 := rfl; omega
        refine ⟨e0, ?_, by rw [← c3]; exact c2⟩
        unfold olc
        rw [List.getLast?_eq_getElem?, c2' (o.1.length - 1) (by omega), show (mi_f h3 14037 - 1).toNat = o.1.length - 1 by omega]
        rfl
      refine mt_ybF r1 oc oz ?_ ?_
      · intro c3
        refine no98 (fun o ho => ?_)
        obtain ⟨k1, k2, k3⟩ := hol o ho
        unfold obw
        rw [if_neg (hx o ho), if_neg (fun q => by
          rcases q.2 with q | q
          · exact q k3
          · rw [k2] at q
            exact (hz.mpr q.1) c3)]
      · intro c3 h4 s1 s2
        have e := me_nil s2
        subst e
        refine ⟨_, me_wyx s1 oc, fun w h5 hw5 hq => ?_⟩
        obtain ⟨rfl, z2, rfl, oz2, hz2⟩ := hq
        refine mt_ybG s1 oc oz2 ?_ ?_
        · intro c4
          refine no98 (fun o ho => ?_)
          obtain ⟨k1, k2, k3⟩ := hol o ho
          unfold obw
          rw [if_neg (hx o ho), if_neg (fun q => by
            rcases q.2 with q | q
            · exact q k3
            · exact (hz2.mpr q.2) c4)]
        · intro c4 h6 t1 t2
          have e := me_nil t2
          subst e
          refine wr98 _ rfl (fun o ho => ?_)
          obtain ⟨k1, k2, k3⟩ := hol o ho
          unfold obw
          rw [if_neg (hx o ho), if_pos ⟨k1, Or.inr ⟨by rw [k2]; exact hz.mp c3, hz2.mp c4⟩⟩]
  refine mt_ybA hS oc ?_ ?_ ?_
  · intro b c
    refine f54 (fun o ho q => ?_)
    subst ho
    obtain ⟨-, c1, -⟩ := oR_len hR
    exact q.1 (List.length_eq_zero_iff.mp (by omega))
  · intro b b2 c c2
    refine f54 (fun o ho q => ?_)
    subst ho
    obtain ⟨-, -, -, -, c4, -⟩ := oR_len hR
    exact q.2 (by rw [← c4]; exact c2)
  · intro b b2 c c2 h1 g1 g2
    have e := me_nil g2
    subst e
    refine ⟨_, me_wrx g1 ⟨by decide, by decide⟩ hR, fun w h2 hw hq => ?_⟩
    obtain ⟨rfl, q1, q2, q3⟩ := hq
    refine mt_ybB q1 oc ?_
    intro h3 r1 r2
    have e := me_nil r2
    subst e
    have f36 : mi_f h3 14036 = mi_f h1 14036 := me_f (c := 14036) q2 g1 rfl rfl
    have em : (2 * mi_f h1 14036 - 0).toNat = (2 * mi_f h1 14036).toNat := by rw [Int.sub_zero]
    have key : ∀ (z : Option (List Int)) (b l : Int), oR h3 (z.map (fun C => (C, b, l, mi_f h1 14036))) → (z.bind (owl (List.replicate (2 * mi_f h1 14036).toNat 32))).map (fun C => ((C, 0, 0, mi_f h1 14036) : ox)) = x.bind (ob zc) → me_E (d + 2) 219 22 [some (.inr (.inr 109)), some (.inl zc), some (.inl 0)] [] h3 (fun w h' => w = none ∧ ab_Sh sx_sk h' ∧ ab_Fr wr_pr h1 h' ∧ oR h' (x.bind (ob zc))) := by
      intro z b l hz he
      refine (be22 (i := mi_f h1 14036) (b := b) (l := l) oc i0 i1 (2 * mi_f h1 14036).toNat 0 h3 z (by omega) (by decide) r1 f36 hz).imp (fun w h' hq => ⟨hq.1, hq.2.1, (q2.wide (fun c hc => ab_swr_ok (by decide) hc)).trans hq.2.2.1, ?_⟩)
      rw [← he]
      exact hq.2.2.2
    cases x with
    | none => exact key none 0 0 q3 rfl
    | some o =>
      obtain ⟨-, c1, -, -, c4, c5⟩ := oR_len hR
      have e0 : o.1 ≠ [] := fun q => by rw [q] at c1; have : (([] : List Int).length : Int) = 0 := rfl; omega
      have e3 : (some o).bind (owx 10) = (ow 10 o.1).map (fun C => (C, o.2.1, o.2.2.1, mi_f h1 14036)) := by
        show owx 10 o = _
        unfold owx
        rw [c5]
      rw [e3] at q3
      refine key (ow 10 o.1) o.2.1 o.2.2.1 q3 ?_
      show _ = ob zc o
      unfold ob obw
      rw [if_pos ⟨e0, by rw [← c4]; exact c2⟩, c5]
theorem me_lyx {zs : Int} (hS : ab_Sh sx_sk h) (os : mi_in zs) (i0 : 0 ≤ mi_f h 14036) (i1 : mi_f h 14036 ≤ 100000) (hR : oR h x) : me_E d 222 0 [some (.inr (.inr 109)), some (.inl zs)] [] h (fun w h' => w = none ∧ ab_Sh sx_sk h' ∧ ab_Fr [(14036, 14037), (14045, 14047)] h h' ∧ oR h' (x.map (oly zs)) ∧ 0 ≤ mi_f h' 14036 ∧ mi_f h' 14036 ≤ mi_f h 14036 + 1) := by
  have b45 := me_fb (c := 14045) hS rfl
  have b46 := me_fb (c := 14046) hS rfl
  -- indent
  have s42 : ∀ (h1 : sm_H) (vb vl : Int), ab_Sh sx_sk h1 → ab_Fr [(14045, 14047)] h h1 → mi_f h1 14045 = vb → mi_f h1 14046 = vl → (∀ o, x = some o → vb = (if zs = 4 then 1 else o.2.1) ∧ vl = (if zs = 5 then 1 else o.2.2.1)) → me_E d 222 42 [some (.inr (.inr 109)), some (.inl zs)] [] h1 (fun w h' => w = none ∧ ab_Sh sx_sk h' ∧ ab_Fr [(14036, 14037), (14045, 14047)] h h' ∧ oR h' (x.map (oly zs)) ∧ 0 ≤ mi_f h' 14036 ∧ mi_f h' 14036 ≤ mi_f h 14036 + 1) := by
    intro h1 vb vl g1 g2 e1 e2 hx
    have f36 : mi_f h1 14036 = mi_f h 14036 := me_f (c := 14036) g2 hS rfl rfl
    have fin : ∀ (h2 : sm_H) (v : Int), ab_Sh sx_sk h2 → mi_f h2 14036 = v → ab_Fr [(14036, 14037)] h1 h2 → (∀ o, x = some o → v = if zs = 6 then o.2.2.2 + 1 else if zs = 7 ∧ 0 < o.2.2.2 then o.2.2.2 - 1 else o.2.2.2) → 0 ≤ v → v ≤ mi_f h 14036 + 1 → (none : Option mi_V) = none ∧ ab_Sh sx_sk h2 ∧ ab_Fr [(14036, 14037), (14045, 14047)] h h2 ∧ oR h2 (x.map (oly zs)) ∧ 0 ≤ mi_f h2 14036 ∧ mi_f h2 14036 ≤ mi_f h 14036 + 1 := by
      intro h2 v r1 r2 r3 hv v0 v1
      have F : ab_Fr [(14036, 14037), (14045, 14047)] h h2 := (g2.wide (fun c hc => ab_swr_ok (by decide) hc)).trans (r3.wide (fun c hc => ab_swr_ok (by decide) hc))
      refine ⟨rfl, r1, F, ?_, by omega, by omega⟩
      rcases hR with ⟨a, b⟩ | ⟨o, a, b, c1, c2, c3, c4, c5⟩
      · exact Or.inl ⟨by rw [a]; rfl, (me_f (c := 14044) F hS rfl rfl).trans b⟩
      · obtain ⟨k1, k2⟩ := hx o a
        refine Or.inr ⟨oly zs o, by rw [a]; rfl, (me_f (c := 14044) F hS rfl rfl).trans b, (me_f (c := 14037) F hS rfl rfl).trans c1, fun k hk => by rw [me_a (k := 170) F hS rfl rfl]; exact c2 k hk, ?_, ?_, ?_⟩
        · rw [me_f (c := 14045) r3 g1 rfl rfl, e1, k1]
          rfl
        · rw [me_f (c := 14046) r3 g1 rfl rfl, e2, k2]
          rfl
        · rw [r2, hv o a]
          rfl
    have ho : ∀ o, x = some o → o.2.2.2 = mi_f h 14036 := fun o a => by
      subst a
      exact (oR_len hR).2.2.2.2.2.symm
    refine mt_ylC g1 os ?_ ?_ ?_ ?_
    · intro c1 c2 h2 r1 r2 r3
      exact fin h2 _ r1 r2 r3 (fun o a => by rw [if_neg c1, if_neg (fun q => c2 q.1), ho o a, f36]) (by omega) (by omega)
    · intro b c1 c2 c3 h2 r1 r2 r3
      exact fin h2 _ r1 r2 r3 (fun o a => by rw [if_neg c1, if_neg (fun q => by have := ho o a; omega), ho o a, f36]) (by omega) (by omega)
    · intro b c1 c2 c3
      refine ⟨by omega, fun h2 r1 r2 r3 => fin h2 _ r1 r2 r3 (fun o a => ?_) (by omega) (by omega)⟩
      rw [if_neg c1, if_pos ⟨c2, by have := ho o a; omega⟩, ho o a, f36]
    · intro b c1
      refine ⟨by omega, fun h2 r1 r2 r3 => fin h2 _ r1 r2 r3 (fun o a => ?_) (by omega) (by omega)⟩
      rw [if_pos c1, ho o a, f36]
  -- lines
  have s21 : ∀ (h1 : sm_H) (vb : Int), ab_Sh sx_sk h1 → ab_Fr [(14045, 14046)] h h1 → mi_f h1 14045 = vb → (∀ o, x = some o → vb = (if zs = 4 then 1 else o.2.1)) → me_E d 222 21 [some (.inr (.inr 109)), some (.inl zs)] [] h1 (fun w h' => w = none ∧ ab_Sh sx_sk h' ∧ ab_Fr [(14036, 14037), (14045, 14047)] h h' ∧ oR h' (x.map (oly zs)) ∧ 0 ≤ mi_f h' 14036 ∧ mi_f h' 14036 ≤ mi_f h 14036 + 1) := by
    intro h1 vb g1 g2 e1 hx
    have f46 : mi_f h1 14046 = mi_f h 14046 := me_f (c := 14046) g2 hS rfl rfl
    have ho : ∀ o, x = some o → o.2.2.1 = mi_f h 14046 := fun o a => by
      subst a
      exact (oR_len hR).2.2.2.2.1.symm
    have go : ∀ (h2 : sm_H) (v : Int), ab_Sh sx_sk h2 → mi_f h2 14046 = v → ab_Fr [(14046, 14047)] h1 h2 → (∀ o, x = some o → v = if zs = 5 then 1 else o.2.2.1) → me_E d 222 42 [some (.inr (.inr 109)), some (.inl zs)] [] h2 (fun w h' => w = none ∧ ab_Sh sx_sk h' ∧ ab_Fr [(14036, 14037), (14045, 14047)] h h' ∧ oR h' (x.map (oly zs)) ∧ 0 ≤ mi_f h' 14036 ∧ mi_f h' 14036 ≤ mi_f h 14036 + 1) := fun h2 v r1 r2 r3 hv => s42 h2 vb v r1 ((g2.wide (fun c hc => ab_swr_ok (by decide) hc)).trans (r3.wide (fun c hc => ab_swr_ok (by decide) hc))) ((me_f (c := 14045) r3 g1 rfl rfl).trans e1) r2 (fun o a => ⟨hx o a, hv o a⟩)
    refine mt_ylB g1 os ?_ ?_ ?_
    · intro b c h2 r1 r2 r3
      refine go h2 1 r1 r2 r3 (fun o a => ?_)
      by_cases q : zs = 5
      · rw [if_pos q]
      · rw [if_neg q, ho o a]
        omega
    · intro b c c2 h2 r1 r2 r3
      exact go h2 0 r1 r2 r3 (fun o a => by rw [if_neg c2, ho o a]; omega)
    · intro b c c2 h2 r1 r2 r3
      exact go h2 1 r1 r2 r3 (fun o a => by rw [if_pos c2])
  have ho : ∀ o, x = some o → o.2.1 = mi_f h 14045 := fun o a => by
    subst a
    exact (oR_len hR).2.2.2.1.symm
  refine mt_ylA hS os ?_ ?_ ?_
  · intro b c h2 r1 r2 r3
    refine s21 h2 1 r1 r3 r2 (fun o a => ?_)
    by_cases q : zs = 4
    · rw [if_pos q]
    · rw [if_neg q, ho o a]
      omega
  · intro b c c2 h2 r1 r2 r3
    exact s21 h2 0 r1 r3 r2 (fun o a => by rw [if_neg c2, ho o a]; omega)
  · intro b c c2 h2 r1 r2 r3
    exact s21 h2 1 r1 r3 r2 (fun o a => by rw [if_pos c2])
end OUT
