/-! what the leaves tell: which units, which values; what is printed of them -/
section EVQ
variable {g : wk_g} {V : Int → Int} {Y : wk_Y} {t : Int → Int}
def evq (Y : wk_Y) (g : wk_g) (s' : gm_S) (L : List (Int × Int)) : Prop := ∀ e ∈ L, (0 ≤ e.1 ∧ e.1 < wk_u Y) ∧ (g 119 e.1.toNat = 1 → ∃ x ∈ gm_T s', x.1 % 10 = 2 ∧ x.2.1 = e.2) ∧ (g 119 e.1.toNat = 2 → ∃ x ∈ gm_T s', x.1 % 10 = 3 ∧ x.2.1 = e.2)
theorem evq_nil {s' : gm_S} : evq Y g s' [] := fun e he => absurd he List.not_mem_nil
theorem evq_sub {s1 s' : gm_S} {L : List (Int × Int)} (h : evq Y g s1 L) (hs : ∀ x ∈ gm_T s1, x ∈ gm_T s') : evq Y g s' L := fun e he => by
  obtain ⟨a, b, c⟩ := h e he
  refine ⟨a, fun q => ?_, fun q => ?_⟩
  · obtain ⟨x, x1, x2⟩ := b q
    exact ⟨x, hs x x1, x2⟩
  · obtain ⟨x, x1, x2⟩ := c q
    exact ⟨x, hs x x1, x2⟩
theorem evq_app {s' : gm_S} {L M : List (Int × Int)} (h1 : evq Y g s' L) (h2 : evq Y g s' M) : evq Y g s' (L ++ M) := fun e he => by
  rcases List.mem_append.mp he with he | he
  · exact h1 e he
  · exact h2 e he
theorem apt_sub {k : Int} {s s' : gm_S} (h : apt k s s') : ∀ x ∈ gm_T s, x ∈ gm_T s' := fun x hx => by
  obtain ⟨-, -, A, a, -⟩ := h
  rw [a]
  exact List.mem_append_left _ hx
theorem cl_sub {s : gm_S} : ∀ x ∈ gm_T s, x ∈ gm_T (gm_cl s) := fun x hx => by
  rw [cl_T]
  exact hx
def evF (g : wk_g) (V : Int → Int) (Y : wk_Y) (N : Nat) : Prop := ∀ n, n < N → ∀ u f s s' L, 0 ≤ f → f < wk_f Y → rn g V n u [(1, f, 0)] s s' L → evq Y g s' L
theorem ev_sg {N : Nat} (hL : wk_L g Y) (hF : evF g V Y N) {n : Nat} {u p : Int} {s s' : gm_S} {L : List (Int × Int)} (hn : n < N) (p0 : 0 ≤ p) (p1 : p < wk_u Y) (h : sgr g V n u p s s' L) : evq Y g s' L := by
  obtain ⟨-, -, -, l9, l10, -⟩ := hL.2.2.1 p p0 p1
  by_cases c9 : g 119 p.toNat = 9
  · obtain ⟨-, t', m, s2, h1, h2, h3, h4⟩ := sgr_9 c9 h
    obtain ⟨-, -, -, -, r1, r2, -⟩ := l9 c9
    subst h4
    exact evq_sub (hF m (by omega) _ _ _ _ _ r1 r2 h3) cl_sub
  · by_cases c10 : g 119 p.toNat = 10
    · obtain ⟨x1, x2, -⟩ := l10 c10
      exact hF n hn _ _ _ _ _ x1 x2 (sgr_10 c10 h)
    · obtain ⟨h1, h2⟩ := sgr_lf c9 c10 h
      subst h1
      intro e he
      have he := List.mem_singleton.mp he
      subst he
      refine ⟨⟨p0, p1⟩, fun q => ?_, fun q => ?_⟩
      · rcases h2 with ⟨a, b⟩ | ⟨a, b⟩ | ⟨a, -⟩
        · obtain ⟨-, -, t3, -, -⟩ := gm_c_t b
          exact ⟨_, by rw [t3]; exact List.mem_append_right _ List.mem_cons_self, by dsimp only; omega, rfl⟩
        · exact absurd q (by dsimp only; omega)
        · exact absurd q a
      · rcases h2 with ⟨a, b⟩ | ⟨a, b⟩ | ⟨-, a, -⟩
        · exact absurd q (by dsimp only; omega)
        · obtain ⟨-, -, t3, -, -⟩ := gm_c_t b
          exact ⟨_, by rw [t3]; exact List.mem_append_right _ List.mem_cons_self, by dsimp only; omega, rfl⟩
        · exact absurd q a
theorem ev_5 {N : Nat} (hL : wk_L g Y) (hT : tt_G t g Y) (hr : ∀ p, 0 ≤ p → p < wk_u Y → 0 ≤ g 122 p.toNat ∧ g 122 p.toNat ≤ 2) (hF : evF g V Y N) {u p : Int} (p0 : 0 ≤ p) (p1 : p < wk_u Y) : ∀ (k : Nat) (a : Int) (n : Nat) (s s' : gm_S) (L : List (Int × Int)), a ≤ k → n ≤ N → rn g V n u [(5, p, a)] s s' L → evq Y g s' L := by
  intro k
  induction k with
  | zero =>
    intro a n s s' L ha hn h
    rcases rn_5 h with ⟨c, -⟩ | ⟨-, -, c⟩
    · omega
    · rw [c]
      exact evq_nil
  | succ k ih =>
    intro a n s s' L ha hn h
    rcases rn_5 h with ⟨c, m1, m2, s1, L1, L2, h1, h2, h3, h4, h5⟩ | ⟨-, -, c⟩
    · obtain ⟨j, hj⟩ := tpq_5 hL (tpq_all hL hT hr N) p0 p1 (a - 1).toNat _ m2 _ _ _ (by omega) (by omega) h4
      rw [h5]
      exact evq_app (evq_sub (ev_sg hL hF (by omega) p0 p1 h3) (apt_sub hj)) (ih (a - 1) m2 s1 s' L2 (by omega) (by omega) h4)
    · rw [c]
      exact evq_nil
theorem ev_u {N : Nat} (hL : wk_L g Y) (hT : tt_G t g Y) (hr : ∀ p, 0 ≤ p → p < wk_u Y → 0 ≤ g 122 p.toNat ∧ g 122 p.toNat ≤ 2) (hF : evF g V Y N) {n : Nat} {u p o : Int} {s s' : gm_S} {L : List (Int × Int)} (hn : n ≤ N) (p0 : 0 ≤ p) (p1 : p < wk_u Y) (h : rn g V n u [(0, p, o)] s s' L) : evq Y g s' L := by
  by_cases c1 : g 122 p.toNat = 1
  · obtain ⟨t', m, s2, h1, h2, h3, h4⟩ := rn_u1 c1 h
    subst h4
    exact evq_sub (ev_5 hL hT hr hF p0 p1 (V (gm_len (gm_op o s))).toNat _ m _ _ _ (by omega) (by omega) h3) cl_sub
  · by_cases c2 : g 122 p.toNat = 2
    · obtain ⟨t', h1, h2⟩ := rn_u2 c2 h
      rcases h2 with ⟨-, m, s2, h3, h4, h5⟩ | ⟨-, h4, -⟩
      · subst h5
        exact evq_sub (ev_sg hL hF (by omega) p0 p1 h4) cl_sub
      · rw [h4]
        exact evq_nil
    · obtain ⟨m, h1, h2⟩ := rn_u0 c1 c2 h
      exact ev_sg hL hF (by omega) p0 p1 h2
theorem ev_it {N : Nat} (hL : wk_L g Y) (hT : tt_G t g Y) (hr : ∀ p, 0 ≤ p → p < wk_u Y → 0 ≤ g 122 p.toNat ∧ g 122 p.toNat ≤ 2) (hF : evF g V Y N) {u : Int} : ∀ (K : Nat) (p : Int) (n : Nat) (s s' : gm_S) (L : List (Int × Int)), n ≤ N → (p < 0 ∨ p < wk_u Y) → rn g V n u (wk_it g K p) s s' L → evq Y g s' L := by
  intro K
  induction K with
  | zero =>
    intro p n s s' L hn hp h
    have h : rn g V n u [] s s' L := h
    rw [(rn_nil h).2]
    exact evq_nil
  | succ K ih =>
    intro p n s s' L hn hp h
    by_cases c : p < 0
    · have e : wk_it g (K + 1) p = [] := by rw [wk_it, if_pos c]
      rw [e] at h
      rw [(rn_nil h).2]
      exact evq_nil
    · have hp : p < wk_u Y := by omega
      obtain ⟨-, lm, ln, -⟩ := hL.2.2.1 p (by omega) hp
      have nx : g 125 p.toNat < 0 ∨ g 125 p.toNat < wk_u Y := by
        by_cases q : 0 ≤ g 125 p.toNat
        · exact Or.inr (ln q).1
        · exact Or.inl (by omega)
      have tF := tpq_all (V := V) hL hT hr N
      by_cases cm : 0 ≤ g 124 p.toNat
      · have e : wk_it g (K + 1) p = (0, p, 1) :: (3, 0, 0) :: (0, g 124 p.toNat, 0) :: (4, 0, 0) :: wk_it g K (g 125 p.toNat) := by rw [wk_it, if_neg c, if_pos cm]
        rw [e] at h
        obtain ⟨n1, n2, n3, s1, s2, L1, L2, L3, h1, h2, h3, h4, h5, h6, h7⟩ := rn_i1 h
        have a1 := tpq_u hL hT hr tF (by omega) (by omega) hp h4
        have a2 := tpq_u hL hT hr tF (by omega) cm (lm cm).1 h5
        have a3 := tpq_it hL hT hr tF K _ n3 _ _ _ (by omega) nx h6
        have o0 : gm_op 0 (gm_mid s1) = gm_mid s1 := by unfold gm_op; rw [if_neg (by decide)]
        rw [o0] at a2
        have s3 := apt_sub a3
        obtain ⟨-, x2, A, x3, -⟩ := a1
        obtain ⟨-, y2, B, y3, -⟩ := a2
        obtain ⟨z1, -, -⟩ := pair_T x2 x3 y2 y3
        rw [gm_op_t] at x3
        rw [gm_mid_T] at y3
        have q2 : ∀ x ∈ gm_T s2, x ∈ gm_T s' := fun x hx => s3 x (by
          rw [z1]
          rw [y3, x3] at hx
          simp only [List.mem_append] at hx ⊢
          rcases hx with (hx | hx) | hx
          · exact Or.inl hx
          · exact Or.inr (Or.inr hx)
          · exact Or.inr (Or.inl hx))
        have q1 : ∀ x ∈ gm_T s1, x ∈ gm_T s' := fun x hx => q2 x (by rw [y3]; exact List.mem_append_left _ hx)
        rw [h7]
        exact evq_app (evq_sub (ev_u hL hT hr hF (by omega) (by omega) hp h4) q1) (evq_app (evq_sub (ev_u hL hT hr hF (by omega) cm (lm cm).1 h5) q2) (ih _ _ _ _ _ (by omega) nx h6))
      · have e : wk_it g (K + 1) p = (0, p, 0) :: wk_it g K (g 125 p.toNat) := by rw [wk_it, if_neg c, if_neg cm]
        rw [e] at h
        obtain ⟨n1, n2, s1, L1, L2, h1, h2, h3, h4, h5⟩ := rn_i0 h
        have a3 := tpq_it hL hT hr tF K _ n2 _ _ _ (by omega) nx h4
        rw [h5]
        exact evq_app (evq_sub (ev_u hL hT hr hF (by omega) (by omega) hp h3) (apt_sub a3)) (ih _ _ _ _ _ (by omega) nx h4)
theorem ev_all (hL : wk_L g Y) (hT : tt_G t g Y) (hr : ∀ p, 0 ≤ p → p < wk_u Y → 0 ≤ g 122 p.toNat ∧ g 122 p.toNat ≤ 2) : ∀ N : Nat, evF g V Y N := by
  intro N
  induction N with
  | zero => intro n hn; omega
  | succ N ih =>
    intro n hn u f s s' L f0 f1 h
    obtain ⟨-, -, d3, -, -, d5⟩ := hL.2.2.2 f f0 f1
    by_cases c : 1 < g 130 f.toNat
    · obtain ⟨cv, t', m, s2, h1, h2, h3, h4⟩ := rn_f1 c h
      subst h4
      obtain ⟨-, -, p8⟩ := d5 (V (gm_len s)).toNat (by omega)
      exact evq_sub (ev_it hL hT hr ih 61 _ m _ _ _ (by omega) (by omega) h3) cl_sub
    · obtain ⟨m, h1, h2⟩ := rn_f0 c h
      obtain ⟨-, -, p8⟩ := d5 0 (by omega)
      have p8 : g 126 (g 129 f.toNat).toNat < 0 ∨ (g 126 (g 129 f.toNat).toNat < wk_u Y ∧ wk_c Y (g 126 (g 129 f.toNat).toNat) = f) := p8
      exact ev_it hL hT hr ih 61 _ m _ _ _ (by omega) (by omega) h2
end EVQ
theorem dv_len {g : wk_g} {V : Int → Int} {e : wk_E} {s : gm_S} : (dv g V e s).length ≤ 1 := by
  have l : ∀ u c, (dv_lf g V u c).length ≤ 1 := fun u c => by
    unfold dv_lf
    split
    · exact Nat.zero_le _
    · exact Nat.le_refl _
  unfold dv
  split
  · split
    · exact Nat.zero_le _
    · split
      · split
        · exact l _ _
        · exact Nat.zero_le _
      · exact l _ _
  · split
    · split
      · exact l _ _
      · exact Nat.zero_le _
    · exact Nat.zero_le _
theorem pe_len {g : wk_g} {V : Int → Int} {st : wk_E → List wk_E → gm_S → Option gm_C} {d : gm_C} : ∀ (n : Nat) (c : gm_C) (L : List (Int × Int)), pe_to st (dv g V) n c d L → L.length ≤ n := by
  intro n
  induction n with
  | zero =>
    intro c L h
    rw [h.2]
    exact Nat.le_refl _
  | succ n ih =>
    intro c L h
    obtain ⟨e, r, c1, L1, h1, h2, h3, h4⟩ := h
    have := ih c1 L1 h3
    have := dv_len (g := g) (V := V) (e := e) (s := c.2)
    rw [h4, List.length_append]
    omega
/-! what is printed are characters -/
def oal (x : Option ox) : Prop := ∀ o, x = some o → ∀ c ∈ o.1, tx_alc c
theorem ow_al {c : Int} {C C' : List Int} (h : ow c C = some C') (hc : tx_alc c) (hC : ∀ c ∈ C, tx_alc c) : ∀ c ∈ C', tx_alc c := by
  unfold ow at h
  split at h
  · cases h
  · injection h with h
    subst h
    intro x hx
    rcases List.mem_append.mp hx with hx | hx
    · exact hC x hx
    · rw [List.mem_singleton.mp hx]
      exact hc
theorem owl_al {W : List Int} (hW : ∀ c ∈ W, tx_alc c) {C C' : List Int} (h : owl W C = some C') (hC : ∀ c ∈ C, tx_alc c) : ∀ c ∈ C', tx_alc c := by
  rw [owl_e _ _ _ h]
  intro x hx
  rcases List.mem_append.mp hx with hx | hx
  · exact hC x hx
  · exact hW x hx
theorem otk_al {W : List Int} (hW : ∀ c ∈ W, tx_alc c) {o o' : ox} (h : otk W o = some o') (hC : ∀ c ∈ o.1, tx_alc c) : ∀ c ∈ o'.1, tx_alc c := by
  unfold otk at h
  obtain ⟨o1, h1, h2⟩ := Option.bind_eq_some_iff.mp h
  unfold owlx at h2
  obtain ⟨C, h3, h4⟩ := Option.map_eq_some_iff.mp h2
  subst h4
  refine owl_al hW h3 ?_
  unfold ob at h1
  obtain ⟨C1, h5, h6⟩ := Option.map_eq_some_iff.mp h1
  subst h6
  dsimp only
  unfold obw at h5
  split at h5
  · obtain ⟨C2, h7, h8⟩ := Option.bind_eq_some_iff.mp h5
    exact owl_al (fun c hc => by rw [List.eq_of_mem_replicate hc]; exact al32) h8 (ow_al h7 al10 hC)
  · split at h5
    · exact ow_al h5 al32 hC
    · injection h5 with h5
      rw [← h5]
      exact hC
theorem dgf_al {n : Int} : ∀ (k : Nat) (e : Int), ∀ c ∈ dgf n k e, tx_alc c := by
  intro k
  induction k with
  | zero => intro e c hc; cases hc
  | succ k ih =>
    intro e c hc
    rw [dgf] at hc
    split at hc
    · rcases List.mem_cons.mp hc with rfl | hc
      · exact Or.inr ⟨by omega, by omega⟩
      · exact ih _ c hc
    · cases hc
def lit_ok (c : Int) : Prop := (0 < c ∧ lgd 6 c) ∨ (c < 0 ∧ tx_alc (-c) ∧ wy (-c) = false)
theorem lts_al {v : Int} (h : lgd 6 v) : ∀ c ∈ lts v, tx_alc c := fun c hc => by
  have : lts v = ltf 6 v := ltf_le 6 v h 7 (by decide)
  rw [this] at hc
  exact (ltf_wy 6 v h c hc).2
theorem oev_al {Lr : Nat → Int} {g : wk_g} {e : Int × Int} (hv : vpp_e g e) (hl : g 119 e.1.toNat = 8 → lit_ok (Lr (g 120 e.1.toNat).toNat)) {o o' : ox} (h : oev Lr (g 119 e.1.toNat) (g 120 e.1.toNat) e.2 o = some o') (hC : ∀ c ∈ o.1, tx_alc c) : ∀ c ∈ o'.1, tx_alc c := by
  unfold oev at h
  split at h
  · refine otk_al (fun c hc => ?_) h hC
    unfold tkw at hc
    by_cases c8 : g 119 e.1.toNat = 8
    · rw [if_pos c8] at hc
      rcases hl c8 with ⟨a, b⟩ | ⟨a, b, -⟩
      · rw [if_pos a] at hc
        exact lts_al b c hc
      · rw [if_neg (by omega)] at hc
        rw [List.mem_singleton.mp hc]
        exact b
    · rw [if_neg c8] at hc
      by_cases c2 : g 119 e.1.toNat = 2
      · rw [if_pos c2] at hc
        exact lts_al (hv.2 c2).2 c hc
      · rw [if_neg c2] at hc
        exact dgf_al 5 _ c hc
  · injection h with h
    rw [← h]
    exact hC
theorem ofd_al {Lr : Nat → Int} {g : wk_g} : ∀ (L : List (Int × Int)) (x : Option ox), (∀ e ∈ L, vpp_e g e) → (∀ e ∈ L, g 119 e.1.toNat = 8 → lit_ok (Lr (g 120 e.1.toNat).toNat)) → oal x → oal (ofd Lr g L x) := by
  intro L
  induction L with
  | nil => intro x _ _ h; exact h
  | cons e L ih =>
    intro x h1 h2 h
    refine ih _ (fun e he => h1 e (List.mem_cons_of_mem _ he)) (fun e he => h2 e (List.mem_cons_of_mem _ he)) ?_
    intro o ho
    obtain ⟨o1, a, b⟩ := Option.bind_eq_some_iff.mp ho
    exact oev_al (h1 e List.mem_cons_self) (h2 e List.mem_cons_self) b (h o1 a)
/-! print of the class, exactly; texts taken over -/
section CTO
variable {d : Nat} {h : sm_H}
def to_OW : List (Nat × Nat) := [(7169, 7170), (7296, 7297)]
def to_IW : List (Nat × Nat) := [(6913, 6914), (7040, 7041)]
theorem me_toO (hS : ab_Sh sx_sk h) (hc : ∀ k : Nat, (k : Int) < mi_f h 7425 → tx_alc (mi_a h 59 k)) : me_E (d + 3) 89 0 [some (.inr (.inr 56)), some (.inr (.inr 58)), none] [] h (fun w h' => w = none ∧ ab_Sh sx_sk h' ∧ ab_Fr to_OW h h' ∧ mi_f h' 7169 = mi_f h 7425 ∧ ∀ k : Nat, (k : Int) < mi_f h 7425 → mi_a h' 57 k = mi_a h 59 k) := by
  have lp : ∀ (N : Nat) (zk : Int) (h1 : sm_H), mi_f h 7425 - zk ≤ N → 0 ≤ zk → zk ≤ mi_f h 7425 → ab_Sh sx_sk h1 → ab_Fr to_OW h h1 → mi_f h1 7169 = zk → (∀ k : Nat, (k : Int) < zk → mi_a h1 57 k = mi_a h 59 k) → me_E (d + 3) 89 6 [some (.inr (.inr 56)), some (.inr (.inr 58)), some (.inl zk)] [] h1 (fun w h' => w = none ∧ ab_Sh sx_sk h' ∧ ab_Fr to_OW h h' ∧ mi_f h' 7169 = mi_f h 7425 ∧ ∀ k : Nat, (k : Int) < mi_f h 7425 → mi_a h' 57 k = mi_a h 59 k) := by
    intro N
    induction N with
    | zero =>
      intro zk h1 hN k0 k1 hS1 hF e1 e2
      have b := me_fb (c := 7425) hS rfl
      have e25 : mi_f h1 7425 = mi_f h 7425 := me_f (c := 7425) hF hS rfl rfl
      refine mt_ktoOB hS1 ⟨by omega, by omega⟩ ?_ (by intros; exfalso; omega)
      intro b1 c1 h2 g1 g2
      have e := me_nil g2
      subst e
      exact ⟨rfl, g1, hF, by omega, fun k hk => e2 k (by omega)⟩
    | succ N ih =>
      intro zk h1 hN k0 k1 hS1 hF e1 e2
      have b := me_fb (c := 7425) hS rfl
      have e25 : mi_f h1 7425 = mi_f h 7425 := me_f (c := 7425) hF hS rfl rfl
      have ok : mi_in zk := ⟨by omega, by omega⟩
      refine mt_ktoOB hS1 ok ?_ ?_
      · intro b1 c1 h2 g1 g2
        have e := me_nil g2
        subst e
        exact ⟨rfl, g1, hF, by omega, fun k hk => e2 k (by omega)⟩
      · intro b1 c1 h2 g1 g2
        have e := me_nil g2
        subst e
        have a59 : mi_a h2 59 zk.toNat = mi_a h 59 zk.toNat := me_a (k := 59) hF hS rfl rfl
        have hal := hc zk.toNat (by omega)
        rw [← a59] at hal
        have hal2 := hal
        unfold tx_alc at hal2
        refine ⟨fun w h' => w = some (.inl (mi_a h2 59 zk.toNat)) ∧ h' = h2, mt_ktoOE hS1 ok (by intros; exfalso; omega) (by intros; exfalso; omega) (by intros; exfalso; omega) ?_, fun w h3 hw hq => ?_⟩
        · intro x1 x2 x3 x4
          exact ⟨⟨⟨by omega, by omega⟩, by omega, by omega⟩, fun h3 s1 s2 => ⟨rfl, me_nil s2⟩⟩
        obtain ⟨rfl, rfl⟩ := hq
        have oc : mi_in (mi_a h3 59 zk.toNat) := ⟨by omega, by omega⟩
        refine mt_ktoOC hS1 ok oc ?_
        intro h4 r1 r2
        have e := me_nil r2
        subst e
        refine ⟨_, (me_app56 (d := d + 2) hS1 hal), fun w h5 hw hq => ?_⟩
        obtain ⟨q1, ⟨rfl, q2, q3, q4, q5⟩ | ⟨-, q2, -⟩⟩ := hq
        · refine mt_ktoOD q1 ok ⟨by decide, by decide⟩ ?_
          refine ⟨⟨by omega, by omega⟩, fun h6 t1 t2 => ?_⟩
          have e := me_nil t2
          subst e
          refine ih (zk + 1) h6 (by omega) (by omega) (by omega) q1 (hF.trans (q5.wide (fun c hc => ab_swr_ok (by decide) hc))) (by omega) (fun k hk => ?_)
          rw [q4, e1]
          by_cases ek : k = zk.toNat
          · rw [if_pos ek, ek, a59]
          · rw [if_neg ek]
            exact e2 k (by omega)
        · exfalso; omega
  have b := me_fb (c := 7425) hS rfl
  refine mt_ktoOA hS ?_
  intro h1 g1 g2 g3
  exact lp (mi_f h 7425).toNat 0 h1 (by omega) (by decide) (by omega) g1 (g3.wide (fun c hc => ab_swr_ok (by decide) hc)) g2 (fun k hk => by omega)
theorem me_toI (hS : ab_Sh sx_sk h) (hc : ∀ k : Nat, (k : Int) < mi_f h 7169 → tx_alc (mi_a h 57 k)) : me_E (d + 3) 89 0 [some (.inr (.inr 54)), some (.inr (.inr 56)), none] [] h (fun w h' => w = none ∧ ab_Sh sx_sk h' ∧ ab_Fr to_IW h h' ∧ mi_f h' 6913 = mi_f h 7169 ∧ ∀ k : Nat, (k : Int) < mi_f h 7169 → mi_a h' 55 k = mi_a h 57 k) := by
  have lp : ∀ (N : Nat) (zk : Int) (h1 : sm_H), mi_f h 7169 - zk ≤ N → 0 ≤ zk → zk ≤ mi_f h 7169 → ab_Sh sx_sk h1 → ab_Fr to_IW h h1 → mi_f h1 6913 = zk → (∀ k : Nat, (k : Int) < zk → mi_a h1 55 k = mi_a h 57 k) → me_E (d + 3) 89 6 [some (.inr (.inr 54)), some (.inr (.inr 56)), some (.inl zk)] [] h1 (fun w h' => w = none ∧ ab_Sh sx_sk h' ∧ ab_Fr to_IW h h' ∧ mi_f h' 6913 = mi_f h 7169 ∧ ∀ k : Nat, (k : Int) < mi_f h 7169 → mi_a h' 55 k = mi_a h 57 k) := by
    intro N
    induction N with
    | zero =>
      intro zk h1 hN k0 k1 hS1 hF e1 e2
      have b := me_fb (c := 7169) hS rfl
      have e25 : mi_f h1 7169 = mi_f h 7169 := me_f (c := 7169) hF hS rfl rfl
      refine mt_ktoIB hS1 ⟨by omega, by omega⟩ ?_ (by intros; exfalso; omega)
      intro b1 c1 h2 g1 g2
      have e := me_nil g2
      subst e
      exact ⟨rfl, g1, hF, by omega, fun k hk => e2 k (by omega)⟩
    | succ N ih =>
      intro zk h1 hN k0 k1 hS1 hF e1 e2
      have b := me_fb (c := 7169) hS rfl
      have e25 : mi_f h1 7169 = mi_f h 7169 := me_f (c := 7169) hF hS rfl rfl
      have ok : mi_in zk := ⟨by omega, by omega⟩
      refine mt_ktoIB hS1 ok ?_ ?_
      · intro b1 c1 h2 g1 g2
        have e := me_nil g2
        subst e
        exact ⟨rfl, g1, hF, by omega, fun k hk => e2 k (by omega)⟩
      · intro b1 c1 h2 g1 g2
        have e := me_nil g2
        subst e
        have a59 : mi_a h2 57 zk.toNat = mi_a h 57 zk.toNat := me_a (k := 57) hF hS rfl rfl
        have hal := hc zk.toNat (by omega)
        rw [← a59] at hal
        have hal2 := hal
        unfold tx_alc at hal2
        refine ⟨fun w h' => w = some (.inl (mi_a h2 57 zk.toNat)) ∧ h' = h2, mt_ktoIE hS1 ok (by intros; exfalso; omega) (by intros; exfalso; omega) (by intros; exfalso; omega) ?_, fun w h3 hw hq => ?_⟩
        · intro x1 x2 x3 x4
          exact ⟨⟨⟨by omega, by omega⟩, by omega, by omega⟩, fun h3 s1 s2 => ⟨rfl, me_nil s2⟩⟩
        obtain ⟨rfl, rfl⟩ := hq
        have oc : mi_in (mi_a h3 57 zk.toNat) := ⟨by omega, by omega⟩
        refine mt_ktoIC hS1 ok oc ?_
        intro h4 r1 r2
        have e := me_nil r2
        subst e
        refine ⟨_, (me_app54 (d := d + 2) hS1 hal), fun w h5 hw hq => ?_⟩
        obtain ⟨q1, ⟨rfl, q2, q3, q4, q5⟩ | ⟨-, q2, -⟩⟩ := hq
        · refine mt_ktoID q1 ok ⟨by decide, by decide⟩ ?_
          refine ⟨⟨by omega, by omega⟩, fun h6 t1 t2 => ?_⟩
          have e := me_nil t2
          subst e
          refine ih (zk + 1) h6 (by omega) (by omega) (by omega) q1 (hF.trans (q5.wide (fun c hc => ab_swr_ok (by decide) hc))) (by omega) (fun k hk => ?_)
          rw [q4, e1]
          by_cases ek : k = zk.toNat
          · rw [if_pos ek, ek, a59]
          · rw [if_neg ek]
            exact e2 k (by omega)
        · exfalso; omega
  have b := me_fb (c := 7169) hS rfl
  refine mt_ktoIA hS ?_
  intro h1 g1 g2 g3
  exact lp (mi_f h 7169).toNat 0 h1 (by omega) (by decide) (by omega) g1 (g3.wide (fun c hc => ab_swr_ok (by decide) hc)) g2 (fun k hk => by omega)
/-- carry -/
theorem me_carryc (hS : ab_Sh sx_sk h) (hc : ∀ k : Nat, (k : Int) < mi_f h 7169 → tx_alc (mi_a h 57 k)) : me_E (d + 4) 88 0 [some (.inr (.inr 51))] [] h (fun w h' => w = some (.inl (mi_f h 7169)) ∧ ab_Sh sx_sk h' ∧ ab_Fr to_IW h h' ∧ mi_f h' 6913 = mi_f h 7169 ∧ ∀ k : Nat, (k : Int) < mi_f h 7169 → mi_a h' 55 k = mi_a h 57 k) := by
  refine mt_kcaA hS ?_
  intro h1 g1 g2
  have e := me_nil g2
  subst e
  refine ⟨_, me_toI (d := d) g1 hc, fun w h2 hw hq => ?_⟩
  obtain ⟨rfl, q1, q2, q3, q4⟩ := hq
  refine mt_kcaB q1 ?_
  intro h3 r1 r2
  have e := me_nil r2
  subst e
  exact ⟨by rw [q3], q1, q2, q3, q4⟩
end CTO
def wr_pv : List (Nat × Nat) := [(7425, 7426), (7552, 7553), (13827, 13830), (13831, 13837)]
def wr_pz : List (Nat × Nat) := (7169, 7170) :: (7296, 7297) :: wr_pv
/-- what is asked of the tree that is printed -/
def pz_H (Lr : Nat → Int) (g : wk_g) (V : Int → Int) (h : sm_H) (L : List (Int × Int)) : Prop := ∃ f it Y kw n s', vpp_H f it g Y kw Lr h ∧ wk_Lrule Y (g 114 0) ∧ f (g 114 0) = 0 ∧ pe_to (dm_st g V 0) (dv g V) n (tr_0 g) ([], s') L ∧ n < 40000 ∧ rh h 0 (gm_T s') ∧ mi_f h 12032 = ((gm_T s').length : Int) ∧ ∀ x ∈ gm_T s', (x.1 % 10 = 5 → x.2.1 ≤ 161) ∧ (x.1 % 10 = 2 → 0 ≤ x.2.1 ∧ x.2.1 ≤ 9999) ∧ (x.1 % 10 = 3 → 0 < x.2.1 ∧ lgd 6 x.2.1)
section CPX
variable {Lr : Nat → Int} {g : wk_g} {V : Int → Int} {h : sm_H} {L : List (Int × Int)}
theorem me_wwalk (hS : ab_Sh sx_sk h) (hP : pz_H Lr g V h L) : me_E 249 103 0 [some (.inr (.inr 108))] [] h (fun w h' => w = none ∧ ab_Sh sx_sk h' ∧ ab_Fr wr_pv h h' ∧ oC h' (ofd Lr g L (some ([], 0, 0, 0))) ∧ oal (ofd Lr g L (some ([], 0, 0, 0)))) := by
  obtain ⟨f, it, Y, kw, n, s', hH, hr, rf, hrun, hn, hR, hN, hT⟩ := hP
  have e0 : wk_ul [(2, 1, 0)] = 1 := by rw [wk_ul_o, ul_nil]; rfl
  have hrun0 : rn g V n 0 ([(1, g 114 0, 0)] ++ [(2, 1, 0)]) (0, 0, [(1, 0, 0)], 1, []) s' L := hrun
  obtain ⟨m, s2, m1, m2, m3⟩ := rn_in hrun0
  rw [Int.zero_add] at m2
  obtain ⟨t, ht⟩ : ∃ t : gm_S, t = (0, 0, [(1, 0, 0)], 0, []) := ⟨_, rfl⟩
  have edt : ((0, 0, [(1, 0, 0)], 1, []) : gm_S) = gm_d t := by
    rw [ht]
    unfold gm_d
    rw [gm_X_mk, gm_F_mk, gm_T_mk, gm_D_mk, gm_P_mk]
    rfl
  rw [edt] at m2
  obtain ⟨-, -, B, b3, b4, -⟩ := vpp_tF (V := V) hH (m + 1) m (by omega) _ _ _ _ _ hr.1 hr.2.1 m2
  have eD : gm_D (gm_d t) = 0 + 1 := by rw [← edt, gm_D_mk]; rfl
  have eT : gm_T (gm_d t) = [(1, 0, 0)] := by rw [← edt, gm_T_mk]
  rw [eD] at b4
  have eTs : gm_T s' = (1, 0, 0) :: B := by rw [m3, cl_T, b3, eT]; rfl
  have hR' := hR
  have hT' := hT
  rw [eTs] at hR hN
  obtain ⟨-, -, r3⟩ := rh_cons b4 hR
  rw [List.length_cons] at hN
  have n100 := hH.2.2
  have hev := ev_all (V := V) hH.1.1 hH.2.1.2 (vpp_rep hH) (m + 1) m (by omega) _ _ _ _ _ hr.1 hr.2.1 m2
  have hevs : evq Y g s' L := evq_sub hev (by rw [m3]; exact cl_sub)
  have hv : ∀ e ∈ L, vpp_e g e := fun e he => by
    obtain ⟨-, v1, v2⟩ := hevs e he
    refine ⟨fun q => ?_, fun q => ?_⟩
    · obtain ⟨x, x1, x2, x3⟩ := v1 q
      rw [← x3]
      exact (hT x x1).2.1 x2
    · obtain ⟨x, x1, x2, x3⟩ := v2 q
      rw [← x3]
      exact (hT x x1).2.2 x2
  have hlit : ∀ e ∈ L, g 119 e.1.toNat = 8 → lit_ok (Lr (g 120 e.1.toNat).toNat) := fun e he q => ((hH.2.1.1 e.1 (hevs e he).1.1 (hevs e he).1.2).2 q).2.2.2
  have hlen := pe_len _ _ _ hrun
  have hal : oal (ofd Lr g L (some ([], 0, 0, 0))) := ofd_al L _ hv hlit (fun o ho c hc => by
    injection ho with ho
    rw [← ho] at hc
    exact absurd hc List.not_mem_nil)
  refine mt_krhA (d := 240) hS ?_
  intro h1 g1 k1 k2 k3 k4 k5 k6 k7 k8 k9 k10 kF
  have hi1 : vpp_in h1 0 0 ([], 0, 0, 0) := ⟨g1, Or.inr ⟨_, rfl, k2, k10, k1, fun k hk => absurd hk (Nat.not_lt_zero _), k8, k7, k6⟩, fun o ho hn => by
    injection ho with ho
    rw [← ho] at hn
    exact absurd rfl hn, k4, k5, by omega⟩
  have hH1 : vpp_H f it g Y kw Lr h1 := vpp_H_fr hH kF hS rfl rfl rfl
  have n1 : mi_f h1 12032 = mi_f h 12032 := me_f (c := 12032) kF hS rfl rfl
  have key := me_wuse (d := 240) (u := 0) (i := 0) (zd := 0) (q := 0) (t := t) (s2 := s2) (L := L) (B := B) (V := V) (vpp_F_all 60 (by decide)) hi1 hH1 (by decide) (by decide) hr.1 hr.2.1 rf (by decide) (by decide) (by decide) (by decide) (by decide) m2 ⟨b3, rh_fr r3 kF hS rfl, by omega, hv, by omega, fun x hx => (hT x (by rw [eTs]; exact List.mem_cons_of_mem _ hx)).1⟩
  refine ⟨_, key, fun w h2 hw hq => ?_⟩
  obtain ⟨rfl, q1, q2, q3, q4, -⟩ := hq
  have F2 : ab_Fr wr_pv h h2 := (kF.wide (fun c hc => ab_swr_ok (by decide) hc)).trans (q2.wide (fun c hc => ab_swr_ok (by decide) hc))
  refine mt_krhB (d := 240) q1 ?_ ?_
  · intro b c h3 r1 r2
    have e := me_nil r2
    subst e
    exact ⟨rfl, q1, F2, q4, hal⟩
  · intro b c h3 r1 r2
    have e := me_nil r2
    subst e
    exact ⟨rfl, q1, F2, q4, hal⟩
def pz_T (h : sm_H) (R : Option ox) (x : Nat) (h' : sm_H) : Prop := ∃ h1, h' = h1 ++ [sm_exc x] ∧ ab_Sh sx_sk h1 ∧ ab_Fr wr_pv h h1 ∧ ((x = 14 ∧ mi_f h 12032 = 0) ∨ (x = 15 ∧ mi_f h 12032 ≠ 0 ∧ R = none))
def pz_Q (h : sm_H) (R : Option ox) (w : Option mi_V) (h' : sm_H) : Prop := ab_Sh sx_sk h' ∧ mi_f h 12032 ≠ 0 ∧ ∃ o, R = some o ∧ w = some (.inl (o.1.length : Int)) ∧ ab_Fr wr_pz h h' ∧ mi_f h' 7169 = (o.1.length : Int) ∧ (∀ k : Nat, k < o.1.length → o.1[k]? = some (mi_a h' 57 k)) ∧ ∀ c ∈ o.1, tx_alc c
theorem me_printc {R : Option ox} (hS : ab_Sh sx_sk h) (hP : mi_f h 12032 ≠ 0 → pz_H Lr g V h L ∧ R = ofd Lr g L (some ([], 0, 0, 0))) : mg_E (pz_T h R) 250 164 0 [some (.inr (.inr 51))] [] h (pz_Q h R) := by
  refine mt_kqoA (d := 249) hS ?_ ?_
  · intro b c h1 g1 g2
    have e := me_nil g2
    subst e
    obtain ⟨hP1, hR⟩ := hP c
    refine ⟨_, me_wwalk g1 hP1, fun w h2 hw hq => ?_⟩
    obtain ⟨rfl, q1, q2, q3, q4⟩ := hq
    rw [← hR] at q3 q4
    refine mt_kqoB (d := 249) q1 ?_ ?_
    · intro b1 c1 h3 r1 r2
      have e := me_nil r2
      subst e
      rcases q3 with ⟨-, -, x, -⟩ | ⟨o, ho, -, -, o1, o2, -⟩
      · exfalso; omega
      have hal := q4 o ho
      refine ⟨_, me_toO (d := 246) q1 (fun k hk => ?_), fun w h4 hw4 hq4 => ?_⟩
      · have := o2 k (by omega)
        exact hal _ (List.mem_of_getElem? this)
      obtain ⟨rfl, v1, v2, v3, v4⟩ := hq4
      refine mt_kqoC (d := 249) v1 ?_
      intro h5 t1 t2
      have e := me_nil t2
      subst e
      refine ⟨v1, c, o, ho, by rw [v3, o1], (q2.wide (fun c hc => ab_swr_ok (by decide) hc)).trans (v2.wide (fun c hc => ab_swr_ok (by decide) hc)), by rw [v3, o1], fun k hk => ?_, hal⟩
      rw [v4 k (by omega)]
      exact o2 k hk
    · intro b1 c1 h3 r1 r2
      have e := me_nil r2
      subst e
      rcases q3 with ⟨x, -⟩ | ⟨o, -, -, x, -⟩
      · exact mg_thr (M := (1, 1, sb_164)) (x := 15) rfl rfl rfl ⟨h3, rfl, q1, q2, Or.inr ⟨rfl, c, x⟩⟩
      · exact absurd x c1
  · intro b c h1 g1 g2
    have e := me_nil g2
    subst e
    exact mg_thr (M := (1, 1, sb_164)) (x := 14) rfl rfl rfl ⟨h1, rfl, g1, ab_Fr.refl, Or.inl ⟨rfl, c⟩⟩
end CPX
