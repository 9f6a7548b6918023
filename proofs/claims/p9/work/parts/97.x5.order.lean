/-! what stands in a group stands behind it -/
def bt_g (b : Nat → Int) (g : wk_g) : Prop := (∀ u : Nat, (u : Int) < g 0 0 → g 119 u = 10 → (0 ≤ g 120 u ∧ g 120 u < g 0 2) ∧ b (g 120 u).toNat = u) ∧ ∀ f : Nat, (f : Int) < g 0 2 → 0 ≤ g 129 f → 0 ≤ g 126 (g 129 f).toNat → b f < g 126 (g 129 f).toNat
def bt_l (b : Nat → Int) (g : wk_g) : Prop := ∀ i : Nat, (i : Int) ≤ g 0 5 → b (g 146 i).toNat = if i = 0 then -1 else g 148 i
def BT (x : ft_X) : Prop := ∃ b, bt_g b x.1 ∧ bt_l b x.1
section BTT
variable {n : Int} {c : Nat → Int} {g g' : wk_g} {b : Nat → Int} {o : Nat → Nat}
theorem bt_cg (h : bt_g b g ∧ bt_l b g) (e0 : g' 0 0 = g 0 0) (e2 : g' 0 2 = g 0 2) (e5 : g' 0 5 = g 0 5) (a1 : g' 119 = g 119) (a2 : g' 120 = g 120) (a3 : g' 126 = g 126) (a4 : g' 129 = g 129) (a5 : g' 146 = g 146) (a6 : g' 148 = g 148) : bt_g b g' ∧ bt_l b g' := by
  unfold bt_g bt_l at h ⊢
  rw [e0, e2, e5, a1, a2, a3, a4, a5, a6]
  exact h
/-- a unit that is no group -/
theorem bt_unit {s w p : Int} (h : bt_g b g ∧ bt_l b g) (hs : s ≠ 10) : bt_g b (rf_unit g s w p) ∧ bt_l b (rf_unit g s w p) := by
  refine ⟨⟨fun u hu => ?_, h.1.2⟩, h.2⟩
  have hu : (u : Int) < g 0 0 + 1 := hu
  show (if u = (g 0 0).toNat then s else g 119 u) = 10 → (0 ≤ (if u = (g 0 0).toNat then w else g 120 u) ∧ (if u = (g 0 0).toNat then w else g 120 u) < g 0 2) ∧ b (if u = (g 0 0).toNat then w else g 120 u).toNat = u
  by_cases cu : u = (g 0 0).toNat
  · simp only [if_pos cu]
    exact fun q => absurd q hs
  · simp only [if_neg cu]
    exact h.1.1 u (by omega)
/-- .. is put -/
theorem bt_put {u : Int} (h : bt_g b g ∧ bt_l b g) (hP : (0 ≤ g 0 2 ∧ 0 ≤ g 0 5) ∧ pk_lev o g (g 0 5).toNat ∧ (0 ≤ g 146 (g 0 5).toNat ∧ g 146 (g 0 5).toNat < g 0 2) ∧ pk_a o g) (hu : 0 ≤ u) (hlt : g 0 5 ≠ 0 → g 148 (g 0 5).toNat < u) : bt_g b (rf_put g u) ∧ bt_l b (rf_put g u) := by
  obtain ⟨⟨n2, n5⟩, lev, l146, pa⟩ := hP
  refine ⟨⟨h.1.1, fun f hf a0 a1 => ?_⟩, h.2⟩
  have hf : (f : Int) < g 0 2 := hf
  have a0 : 0 ≤ g 129 f := a0
  have e126 : ∀ k : Nat, (rf_put g u) 126 k = if g 151 (g 0 5).toNat = 0 ∧ g 149 (g 0 5).toNat < 0 ∧ k = (g 147 (g 0 5).toNat).toNat then u else g 126 k := fun k => rfl
  have e129 : (rf_put g u) 129 f = g 129 f := rfl
  rw [e129, e126] at a1 ⊢
  by_cases cc : g 151 (g 0 5).toNat = 0 ∧ g 149 (g 0 5).toNat < 0 ∧ (g 129 f).toNat = (g 147 (g 0 5).toNat).toNat
  · rw [if_pos cc]
    have o1 := (pa.2.1 f hf).2.2.2 a0
    have o2 := lev.2.2.2.2.2.2.1
    rw [← cc.2.2, o1] at o2
    have hl := h.2 (g 0 5).toNat (by omega)
    rw [← o2] at hl
    rw [hl]
    by_cases c5 : (g 0 5).toNat = 0
    · rw [if_pos c5]
      omega
    · rw [if_neg c5]
      exact hlt (by omega)
  · rw [if_neg cc] at a1 ⊢
    exact h.1.2 f hf a0 a1
/-- an alternative begins -/
theorem bt_beg {p : Int} (h : bt_g b g ∧ bt_l b g) (n1 : 0 ≤ g 0 1) (pa : ∀ f : Nat, (f : Int) < g 0 2 → g 129 f < g 0 1) : bt_g b (rf_beg g p) ∧ bt_l b (rf_beg g p) := by
  refine ⟨⟨h.1.1, fun f hf a0 a1 => ?_⟩, h.2⟩
  have hf : (f : Int) < g 0 2 := hf
  have e129 : (rf_beg g p) 129 f = if g 130 (g 146 (g 0 5).toNat).toNat = 0 ∧ f = (g 146 (g 0 5).toNat).toNat then g 0 1 else g 129 f := rfl
  have e126 : ∀ k : Nat, (rf_beg g p) 126 k = if k = (g 0 1).toNat then -1 else g 126 k := fun k => rfl
  rw [e129] at a0 a1 ⊢
  by_cases cc : g 130 (g 146 (g 0 5).toNat).toNat = 0 ∧ f = (g 146 (g 0 5).toNat).toNat
  · rw [if_pos cc, e126, if_pos rfl] at a1
    omega
  · rw [if_neg cc] at a0 a1 ⊢
    have := pa f hf
    rw [e126, if_neg (by omega)] at a1 ⊢
    exact h.1.2 f hf a0 a1
theorem BT_T {x y : ft_X} (hP : PT x) (h : BT x) (ht : ft_T n c x y) : BT y := by
  obtain ⟨o, hK, -⟩ := hP
  obtain ⟨⟨n0, n1, n2, n5⟩, lev, l146, l148, -, l55, -, -, -, pa⟩ := hK
  obtain ⟨b, h⟩ := h
  have k5 : (((x.1 0 5).toNat : Nat) : Int) = x.1 0 5 := by omega
  obtain ⟨t, v, p, e, k1, k2⟩ := ht
  rcases k2 with ⟨hip, -, g1, r1, r2⟩ | ⟨nip, due, m⟩
  · have put : ∀ (gl : wk_g) (s w : Int), s ≠ 10 → bt_g b gl ∧ bt_l b gl → gl 0 0 = x.1 0 0 → ((0 ≤ gl 0 2 ∧ 0 ≤ gl 0 5) ∧ pk_lev o gl (gl 0 5).toNat ∧ (0 ≤ gl 146 (gl 0 5).toNat ∧ gl 146 (gl 0 5).toNat < gl 0 2) ∧ pk_a o gl) → (gl 0 5 ≠ 0 → gl 148 (gl 0 5).toNat < x.1 0 0) → g1 = rf_put (rf_unit gl s w p) (x.1 0 0) → bt_g b g1 ∧ bt_l b g1 := by
      intro gl s w hs q0 q1 q2 q3 q4
      rw [q4]
      refine bt_put (o := o) (bt_unit q0 hs) ⟨q2.1, ?_, q2.2.2⟩ n0 q3
      obtain ⟨a1, a2, a3, a4, a5, a6, a7, a8⟩ := q2.2.1
      have nw : ∀ z, z < gl 0 0 → (rf_unit gl s w p) 125 z.toNat = if z.toNat = (gl 0 0).toNat then -1 else gl 125 z.toNat := fun z _ => rfl
      refine ⟨a1, by show gl 149 (gl 0 5).toNat < gl 0 0 + 1; omega, a3, fun q => ?_, fun q => ⟨(a5 q).1, ?_⟩, a6, a7, fun q v hv => ?_⟩
      · show (if (gl 149 (gl 0 5).toNat).toNat = (gl 0 0).toNat then (-1 : Int) else gl 125 (gl 149 (gl 0 5).toNat).toNat) < 0
        split
        · decide
        · exact a4 q
      · show (if (gl 149 (gl 0 5).toNat).toNat = (gl 0 0).toNat then (-1 : Int) else gl 124 (gl 149 (gl 0 5).toNat).toNat) < 0
        split
        · decide
        · exact (a5 q).2
      · have hv : (v : Int) < gl 0 0 + 1 := hv
        have q : 0 ≤ gl 149 (gl 0 5).toNat := q
        show (if v = (gl 0 0).toNat then (-1 : Int) else gl 124 v) ≠ gl 149 (gl 0 5).toNat
        split
        · omega
        · exact a8 q v (by omega)
    have hl5 : x.1 0 5 ≠ 0 → x.1 148 (x.1 0 5).toNat < x.1 0 0 := fun q => (l148 _ (by omega) (by omega)).2.1
    have base : (0 ≤ x.1 0 2 ∧ 0 ≤ x.1 0 5) ∧ pk_lev o x.1 (x.1 0 5).toNat ∧ (0 ≤ x.1 146 (x.1 0 5).toNat ∧ x.1 146 (x.1 0 5).toNat < x.1 0 2) ∧ pk_a o x.1 := ⟨⟨n2, n5⟩, lev _ (by omega), l146 _ (by omega), pa⟩
    have ps : (t = 1 ∨ t = 2) → pu_s t v ≠ 10 := by
      intro q
      have sv := so_r_v v
      unfold pu_s
      by_cases c1 : t = 1
      · rw [if_pos c1]
        omega
      · rw [if_neg c1, if_pos (by omega)]
        decide
    have pl : t ≠ 40 → bt_g b g1 ∧ bt_l b g1 := by
      intro t40
      rcases r1 with ⟨e1, -⟩ | ⟨e1, z, gl, e2, e3⟩ | ⟨e1, e2⟩
      · exact absurd e1 t40
      · rcases e2 with ⟨x1, x2, x3, x4, x5⟩ | ⟨x1, x2, x3, x4⟩
        · rw [x5] at e3
          exact put x.1 8 z (by decide) h rfl base hl5 e3
        · rw [x4] at e3
          exact put (rf_lit x.1 (lc_t t v)) 8 z (by decide) (bt_cg h rfl rfl rfl rfl rfl rfl rfl rfl rfl) rfl base hl5 e3
      · exact put x.1 _ _ (ps e1) h rfl base hl5 e2
    rcases r2 with ⟨t40, r3⟩ | ⟨t40, g2, a2, r3, r4, r5⟩
    · rw [r3]
      rcases r1 with ⟨e1, e2⟩ | ⟨e1, -⟩ | ⟨e1, -⟩
      · refine ⟨fun f => if f = (x.1 0 2).toNat then x.1 0 0 else b f, ?_⟩
        show bt_g _ g1 ∧ bt_l _ g1
        rw [e2]
        refine bt_beg ⟨⟨fun u hu => ?_, fun f hf a0 a1 => ?_⟩, fun i hi => ?_⟩ n1 (fun f hf => ?_)
        · have hu : (u : Int) < x.1 0 0 + 1 := hu
          show (if u = (x.1 0 0).toNat then (10 : Int) else x.1 119 u) = 10 → (0 ≤ (if u = (x.1 0 0).toNat then x.1 0 2 else (if u = (x.1 0 0).toNat then (0 : Int) else x.1 120 u)) ∧ (if u = (x.1 0 0).toNat then x.1 0 2 else (if u = (x.1 0 0).toNat then (0 : Int) else x.1 120 u)) < x.1 0 2 + 1) ∧ (if (if u = (x.1 0 0).toNat then x.1 0 2 else (if u = (x.1 0 0).toNat then (0 : Int) else x.1 120 u)).toNat = (x.1 0 2).toNat then x.1 0 0 else b (if u = (x.1 0 0).toNat then x.1 0 2 else (if u = (x.1 0 0).toNat then (0 : Int) else x.1 120 u)).toNat) = u
          by_cases cu : u = (x.1 0 0).toNat
          · simp only [if_pos cu, if_true]
            exact fun _ => ⟨⟨n2, by omega⟩, by omega⟩
          · simp only [if_neg cu]
            intro q
            obtain ⟨q1, q2⟩ := h.1.1 u (by omega) q
            rw [if_neg (by omega)]
            exact ⟨⟨q1.1, by omega⟩, q2⟩
        · have hf : (f : Int) < x.1 0 2 + 1 := hf
          have a0 : 0 ≤ if f = (x.1 0 2).toNat then (-1 : Int) else x.1 129 f := a0
          by_cases cf : f = (x.1 0 2).toNat
          · rw [if_pos cf] at a0
            omega
          · rw [if_neg cf] at a0
            have a1 : 0 ≤ x.1 126 (if f = (x.1 0 2).toNat then (-1 : Int) else x.1 129 f).toNat := a1
            rw [if_neg cf] at a1
            show (if f = (x.1 0 2).toNat then x.1 0 0 else b f) < x.1 126 (if f = (x.1 0 2).toNat then (-1 : Int) else x.1 129 f).toNat
            rw [if_neg cf, if_neg cf]
            exact h.1.2 f (by omega) a0 a1
        · have hi : (i : Int) ≤ x.1 0 5 + 1 := hi
          show (if (if i = (x.1 0 5 + 1).toNat then x.1 0 2 else x.1 146 i).toNat = (x.1 0 2).toNat then x.1 0 0 else b (if i = (x.1 0 5 + 1).toNat then x.1 0 2 else x.1 146 i).toNat) = if i = 0 then -1 else (if i = (x.1 0 5 + 1).toNat then x.1 0 0 else x.1 148 i)
          by_cases ci : i = (x.1 0 5 + 1).toNat
          · rw [if_pos ci, if_pos rfl, if_neg (by omega), if_pos ci]
          · have li := l146 i (by omega)
            rw [if_neg ci, if_neg (by omega), if_neg ci]
            exact h.2 i (by omega)
        · have hf : (f : Int) < x.1 0 2 + 1 := hf
          show (if f = (x.1 0 2).toNat then (-1 : Int) else x.1 129 f) < x.1 0 1
          split
          · omega
          · exact (pa.2.1 f (by omega)).2.2.1
      · omega
      · omega
    · have q1 := pl t40
      rw [r5]
      by_cases cn : t = 1 ∧ so_r v = 1
      · obtain ⟨t2, v2, p2, e2, l1, l2⟩ := r3 cn
        rcases l2 with ⟨-, l3, l4⟩ | ⟨l3, v3, p3, l4, l5⟩
        · rw [l3]
          exact ⟨b, q1⟩
        · rw [l5]
          have s1 : g1 119 (g1 0 0 - 1).toNat = 1 := by
            rcases r1 with ⟨e1, -⟩ | ⟨e1, -⟩ | ⟨e1, e2⟩
            · omega
            · omega
            · rw [e2]
              show (if (x.1 0 0 + 1 - 1).toNat = (x.1 0 0).toNat then pu_s t v else x.1 119 (x.1 0 0 + 1 - 1).toNat) = 1
              rw [show x.1 0 0 + 1 - 1 = x.1 0 0 by omega, if_pos rfl]
              unfold pu_s
              rw [if_pos cn.1]
              exact cn.2
          refine ⟨b, ⟨fun u hu q => ?_, q1.1.2⟩, q1.2⟩
          have q : g1 119 u = 10 := q
          have nu : u ≠ (g1 0 0 - 1).toNat := fun z => by rw [z, s1] at q; exact absurd q (by decide)
          show (0 ≤ (if u = (g1 0 0 - 1).toNat then v3 else g1 120 u) ∧ (if u = (g1 0 0 - 1).toNat then v3 else g1 120 u) < g1 0 2) ∧ b (if u = (g1 0 0 - 1).toNat then v3 else g1 120 u).toNat = u
          rw [if_neg nu]
          exact q1.1.1 u hu q
      · obtain ⟨l1, l2⟩ := r4 cn
        rw [l1]
        exact ⟨b, q1⟩
  · rcases m with ⟨m1, -, m3⟩ | ⟨m1, mp, m3⟩ | ⟨m1, -, m3⟩ | ⟨m1, ml, m3⟩
    · rw [m3]
      exact ⟨b, bt_cg h rfl rfl rfl rfl rfl rfl rfl rfl rfl⟩
    · rw [m3]
      exact ⟨b, bt_cg h rfl rfl rfl rfl rfl rfl rfl rfl rfl⟩
    · rw [m3]
      exact ⟨b, bt_beg h n1 (fun f hf => (pa.2.1 f hf).2.2.1)⟩
    · rw [m3]
      have ek : ((x.1 0 5 - 1).toNat : Int) = x.1 0 5 - 1 := by omega
      refine ⟨b, bt_put (o := o) (g := rf_lvl x.1 (x.1 0 5 - 1)) ⟨h.1, fun i hi => h.2 i (by have hi : (i : Int) ≤ x.1 0 5 - 1 := hi; omega)⟩ ⟨⟨n2, by show 0 ≤ x.1 0 5 - 1; omega⟩, lev (x.1 0 5 - 1).toNat (by omega), l146 (x.1 0 5 - 1).toNat (by omega), pa⟩ (l148 _ (by omega) (by omega)).1 (fun q => ?_)⟩
      have q : x.1 0 5 - 1 ≠ 0 := q
      exact (l55 (x.1 0 5 - 1).toNat (x.1 0 5).toNat (by omega) (by omega)).2 (by omega)
theorem BT_Tr {y : ft_X} : ∀ (k : Nat) (x : ft_X), PT x → BT x → ft_Tr n c k x y → BT y := by
  intro k
  induction k with
  | zero => intro x _ h e; have e : x = y := e; rw [← e]; exact h
  | succ k ih => intro x hp h e; obtain ⟨z, e1, e2⟩ := e; exact ih z (PT_T hp e1) (BT_T hp h e1) e2
theorem BT_ruTr {s' : wk_g × Int} : ∀ (k : Nat) (s : wk_g × Int), (∃ o, PKr o s.1) → (∃ b, bt_g b s.1) → ru_Tr n c k s s' → ∃ b, bt_g b s'.1 := by
  intro k
  induction k with
  | zero => intro s _ h e; have e : s = s' := e; rw [← e]; exact h
  | succ k ih =>
    intro s hp h e
    obtain ⟨z, ⟨v, p, e', v2, p2, e2', y, k1, q1, q2, k4, ⟨k', k5, k6⟩, k7⟩, e2⟩ := e
    have hz := PK_ruTr (n := n) (c := c) 1 s hp (s' := z) ⟨z, ⟨v, p, e', v2, p2, e2', y, k1, q1, q2, k4, ⟨k', k5, k6⟩, k7⟩, rfl⟩
    refine ih z hz ?_ e2
    rw [k7]
    obtain ⟨o, hP⟩ := hp
    obtain ⟨b, h1, h2⟩ := h
    have n2 := hP.1.2.2
    have pa := hP.2.2.2
    have t : PT (ru_x s.1 v p e2') := ⟨_, PK_beg (p := 0) (PK_rule (v := v) (p := p) hP) (by show (0 : Int) - 1 ≤ -1; decide) (fun q => by
      exfalso
      refine q ?_
      show (if (if (0 : Nat) = 0 then s.1 0 2 else s.1 146 0).toNat = (s.1 0 2).toNat then (0 : Int) else s.1 130 (if (0 : Nat) = 0 then s.1 0 2 else s.1 146 0).toNat) = 0
      rw [if_pos rfl, if_pos rfl]), fun q => absurd q (show (1 : Int) ≠ 0 from by decide)⟩
    have hb : BT (ru_x s.1 v p e2') := by
      refine ⟨fun f => if f = (s.1 0 2).toNat then -1 else b f, ?_⟩
      refine bt_beg ⟨⟨fun u hu q => ?_, fun f hf a0 a1 => ?_⟩, fun i hi => ?_⟩ hP.1.2.1 (fun f hf => ?_)
      · obtain ⟨x1, x2⟩ := h1 u hu q
        show (0 ≤ s.1 120 u ∧ s.1 120 u < s.1 0 2 + 1) ∧ (if (s.1 120 u).toNat = (s.1 0 2).toNat then -1 else b (s.1 120 u).toNat) = u
        rw [if_neg (by omega)]
        exact ⟨⟨x1.1, by omega⟩, x2⟩
      · have hf : (f : Int) < s.1 0 2 + 1 := hf
        have a0 : 0 ≤ if f = (s.1 0 2).toNat then (-1 : Int) else s.1 129 f := a0
        by_cases cf : f = (s.1 0 2).toNat
        · rw [if_pos cf] at a0
          omega
        · rw [if_neg cf] at a0
          have a1 : 0 ≤ s.1 126 (if f = (s.1 0 2).toNat then (-1 : Int) else s.1 129 f).toNat := a1
          rw [if_neg cf] at a1
          show (if f = (s.1 0 2).toNat then -1 else b f) < s.1 126 (if f = (s.1 0 2).toNat then (-1 : Int) else s.1 129 f).toNat
          rw [if_neg cf, if_neg cf]
          exact h2 f (by omega) a0 a1
      · have hi : (i : Int) ≤ 0 := hi
        have ei : i = 0 := by omega
        subst ei
        show (if (if (0 : Nat) = 0 then s.1 0 2 else s.1 146 0).toNat = (s.1 0 2).toNat then (-1 : Int) else b (if (0 : Nat) = 0 then s.1 0 2 else s.1 146 0).toNat) = if (0 : Nat) = 0 then -1 else s.1 148 0
        rw [if_pos rfl, if_pos rfl, if_pos rfl]
      · have hf : (f : Int) < s.1 0 2 + 1 := hf
        show (if f = (s.1 0 2).toNat then (-1 : Int) else s.1 129 f) < s.1 0 1
        split
        · have := hP.1.2.1; omega
        · exact (pa.2.1 f (by omega)).2.2.1
    obtain ⟨b', q, -⟩ := BT_Tr k' _ t hb k5
    exact ⟨b', q⟩
theorem BT_D {g0 : wk_g} (h0 : rz_0 g0) (h : rz_D n c g0 g) : ∃ b, bt_g b g := by
  obtain ⟨k, a, h1, -⟩ := h
  have e := h0.1
  exact BT_ruTr k (g0, 0) ⟨fun _ => 0, ⟨by show 0 ≤ g0 0 0; omega, by show 0 ≤ g0 0 1; omega, by show 0 ≤ g0 0 2; omega⟩, fun u hu => by have hu : (u : Int) < g0 0 0 := hu; omega, fun u hu => by have hu : (u : Int) < g0 0 0 := hu; omega, fun a ha => by have ha : (a : Int) < g0 0 1 := ha; omega, fun f hf => by have hf : (f : Int) < g0 0 2 := hf; omega, fun a ha => by have ha : (a : Int) < g0 0 1 := ha; omega⟩ ⟨fun _ => 0, fun u hu => by have hu : (u : Int) < g0 0 0 := hu; omega, fun f hf => by have hf : (f : Int) < g0 0 2 := hf; omega⟩ h1
/-- what a group's only alternative begins with -/
theorem bt_first (h : bt_g b g) {u : Nat} (hu : (u : Int) < g 0 0) (h10 : g 119 u = 10) (a0 : 0 ≤ g 129 (g 120 u).toNat) (a1 : 0 ≤ g 126 (g 129 (g 120 u).toNat).toNat) : (u : Int) < g 126 (g 129 (g 120 u).toNat).toNat := by
  obtain ⟨q1, q2⟩ := h.1 u hu h10
  have := h.2 (g 120 u).toNat (by omega) a0 a1
  omega
end BTT
