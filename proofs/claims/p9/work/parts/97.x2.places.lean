/-! READING, purely: the places -/
def PQ (n : Int) (g : wk_g) : Prop := (0 ≤ g 0 0 ∧ 0 ≤ g 0 1 ∧ 0 ≤ g 0 3) ∧ (∀ r : Nat, (r : Int) < g 0 3 → 0 ≤ g 113 r ∧ g 113 r ≤ n) ∧ (∀ u : Nat, (u : Int) < g 0 0 → g 122 u ≠ 0 → 0 ≤ g 123 u ∧ g 123 u ≤ n) ∧ ∀ a : Nat, (a : Int) < g 0 1 → (0 ≤ g 127 a ∧ g 127 a ≤ n) ∧ g 128 a < g 0 1 ∧ (0 ≤ g 128 a → 0 < g 127 (g 128 a).toNat)
section PQS
variable {g g' : wk_g} {n : Int} {c : Nat → Int}
theorem PQ_cg (h : PQ n g) (e0 : g' 0 0 = g 0 0 ∧ g' 0 1 = g 0 1 ∧ g' 0 3 = g 0 3) (e : g' 113 = g 113 ∧ g' 122 = g 122 ∧ g' 123 = g 123 ∧ g' 127 = g 127 ∧ g' 128 = g 128) : PQ n g' := by
  obtain ⟨a0, a1, a3⟩ := e0
  obtain ⟨b1, b2, b3, b4, b5⟩ := e
  unfold PQ
  rw [a0, a1, a3, b1, b2, b3, b4, b5]
  exact h
theorem PQ_unit {s w p : Int} (h : PQ n g) : PQ n (rf_unit g s w p) := by
  obtain ⟨⟨n0, n1, n3⟩, h1, h2, h3⟩ := h
  refine ⟨⟨by show 0 ≤ g 0 0 + 1; omega, n1, n3⟩, h1, fun u hu q => ?_, h3⟩
  have hu : (u : Int) < g 0 0 + 1 := hu
  have r122 : (rf_unit g s w p) 122 u = if u = (g 0 0).toNat then 0 else g 122 u := rfl
  rw [r122] at q
  by_cases cu : u = (g 0 0).toNat
  · rw [if_pos cu] at q
    exact absurd rfl q
  · rw [if_neg cu] at q
    exact h2 u (by omega) q
theorem PQ_wrap {u w p : Int} (h : PQ n g) (p0 : 0 ≤ p) (p1 : p ≤ n) : PQ n (rf_wrap g u w p) := by
  obtain ⟨hn, h1, h2, h3⟩ := h
  refine ⟨hn, h1, fun i hi q => ?_, h3⟩
  have r122 : (rf_wrap g u w p) 122 i = if i = u.toNat then w else g 122 i := rfl
  have r123 : (rf_wrap g u w p) 123 i = if i = u.toNat then p else g 123 i := rfl
  rw [r122] at q
  rw [r123]
  by_cases cu : i = u.toNat
  · rw [if_pos cu]; exact ⟨p0, p1⟩
  · rw [if_neg cu] at q ⊢
    exact h2 i hi q
theorem PQ_beg {p : Int} (h : PQ n g) (p0 : 0 ≤ p) (p1 : p ≤ n) (hp : g 130 (g 146 (g 0 5).toNat).toNat ≠ 0 → 0 < p) : PQ n (rf_beg g p) := by
  obtain ⟨⟨n0, n1, n3⟩, h1, h2, h3⟩ := h
  refine ⟨⟨n0, by show 0 ≤ g 0 1 + 1; omega, n3⟩, h1, h2, fun a ha => ?_⟩
  have ha : (a : Int) < g 0 1 + 1 := ha
  have r127 : ∀ i, (rf_beg g p) 127 i = if i = (g 0 1).toNat then p else g 127 i := fun _ => rfl
  have r128 : ∀ i, (rf_beg g p) 128 i = if g 130 (g 146 (g 0 5).toNat).toNat ≠ 0 ∧ i = (g 147 (g 0 5).toNat).toNat then g 0 1 else if i = (g 0 1).toNat then -1 else g 128 i := fun _ => rfl
  refine ⟨?_, ?_⟩
  · rw [r127]
    by_cases ca : a = (g 0 1).toNat
    · rw [if_pos ca]; exact ⟨p0, p1⟩
    · rw [if_neg ca]
      exact (h3 a (by omega)).1
  · rw [r128]
    by_cases c0 : g 130 (g 146 (g 0 5).toNat).toNat ≠ 0 ∧ a = (g 147 (g 0 5).toNat).toNat
    · rw [if_pos c0]
      refine ⟨by show g 0 1 < g 0 1 + 1; omega, fun _ => ?_⟩
      rw [r127, if_pos rfl]
      exact hp c0.1
    · rw [if_neg c0]
      by_cases ca : a = (g 0 1).toNat
      · rw [if_pos ca]
        exact ⟨by show (-1 : Int) < g 0 1 + 1; omega, fun q => absurd q (by decide)⟩
      · rw [if_neg ca]
        obtain ⟨-, l1, l2⟩ := h3 a (by omega)
        refine ⟨by show g 128 a < g 0 1 + 1; omega, fun q => ?_⟩
        rw [r127, if_neg (by omega)]
        exact l2 q
theorem PQ_rule {v p : Int} (h : PQ n g) (p0 : 0 ≤ p) (p1 : p ≤ n) : PQ n (rf_rule g v p) := by
  obtain ⟨⟨n0, n1, n3⟩, h1, h2, h3⟩ := h
  refine ⟨⟨n0, n1, by show 0 ≤ g 0 3 + 1; omega⟩, fun r hr => ?_, h2, h3⟩
  have hr : (r : Int) < g 0 3 + 1 := hr
  have r113 : (rf_rule g v p) 113 r = if r = (g 0 3).toNat then p else g 113 r := rfl
  rw [r113]
  by_cases cr : r = (g 0 3).toNat
  · rw [if_pos cr]; exact ⟨p0, p1⟩
  · rw [if_neg cr]
    exact h1 r (by omega)
def PY (n : Int) (x : ft_X) : Prop := (0 < x.2.1 ∧ x.2.1 ≤ n) ∧ PQ n x.1
theorem PQ_rp {t v p : Int} (h : PQ n g) (n0 : 0 ≤ n) (n2 : 0 ≤ g 0 2) (hr : rp_R g t v p g') : PQ n g' := by
  rcases hr with ⟨e1, e2⟩ | ⟨e1, z, gl, e2, e3⟩ | ⟨e1, e2⟩
  · rw [e2]
    refine PQ_beg (PQ_cg (PQ_unit (s := 10) (w := 0) (p := p) h) ⟨rfl, rfl, rfl⟩ ⟨rfl, rfl, rfl, rfl, rfl⟩) (Int.le_refl _) n0 (fun q => ?_)
    exfalso
    refine q ?_
    show (if (if (g 0 5 + 1).toNat = (g 0 5 + 1).toNat then g 0 2 else g 146 (g 0 5 + 1).toNat).toNat = (g 0 2).toNat then (0 : Int) else g 130 (if (g 0 5 + 1).toNat = (g 0 5 + 1).toNat then g 0 2 else g 146 (g 0 5 + 1).toNat).toNat) = 0
    rw [if_pos rfl, if_pos rfl]
  · rw [e3]
    rcases e2 with ⟨x1, x2, x3, x4, x5⟩ | ⟨x1, x2, x3, x4⟩
    · rw [x5]
      exact PQ_cg (PQ_unit (s := 8) (w := z) (p := p) h) ⟨rfl, rfl, rfl⟩ ⟨rfl, rfl, rfl, rfl, rfl⟩
    · rw [x4]
      exact PQ_cg (PQ_unit (s := 8) (w := z) (p := p) h) ⟨rfl, rfl, rfl⟩ ⟨rfl, rfl, rfl, rfl, rfl⟩
  · rw [e2]
    exact PQ_cg (PQ_unit (s := pu_s t v) (w := pu_w t v) (p := p) h) ⟨rfl, rfl, rfl⟩ ⟨rfl, rfl, rfl, rfl, rfl⟩
theorem PY_T {x y : ft_X} (h : PY n x) (hW : PW x.1) (ht : ft_T n c x y) : PY n y := by
  obtain ⟨⟨a0, a1⟩, h⟩ := h
  obtain ⟨t, v, p, e, k1, k2⟩ := ht
  have kf := tk_f a1 k1
  have p0 : 0 < p := by omega
  have p1 : p ≤ n := kf.1.2
  rcases k2 with ⟨hip, -, g1, r1, r2⟩ | ⟨nip, -, m⟩
  · have ne := ip_ne hip
    have ke := kf.2.2.1 ne.1 ne.2
    have q1 := PQ_rp h (by omega) hW.2.1 r1
    rcases r2 with ⟨-, r3⟩ | ⟨-, g2, a2, r3, r4, r5⟩
    · rw [r3]
      exact ⟨⟨by show 0 < e; omega, by show e ≤ n; omega⟩, q1⟩
    · rw [r5]
      by_cases cn : t = 1 ∧ so_r v = 1
      · obtain ⟨t2, v2, p2, e2, l1, l2⟩ := r3 cn
        rcases l2 with ⟨-, l3, l4⟩ | ⟨l3, v3, p3, l4, l5⟩
        · rw [l3, l4]
          exact ⟨⟨by show 0 < e; omega, by show e ≤ n; omega⟩, q1⟩
        · have f1 := (tk_f ke.2 l1).2.2.1 (by omega) (by omega)
          have f2 := tk_f (by omega) l4
          have f3 := f2.2.2.1 (by decide) (by decide)
          have f4 := tk_f ke.2 l1
          rw [l5]
          exact ⟨⟨by show 0 < a2; omega, by show a2 ≤ n; omega⟩, PQ_cg q1 ⟨rfl, rfl, rfl⟩ ⟨rfl, rfl, rfl, rfl, rfl⟩⟩
      · obtain ⟨l1, l2⟩ := r4 cn
        rw [l1, l2]
        exact ⟨⟨by show 0 < e; omega, by show e ≤ n; omega⟩, q1⟩
  · rcases m with ⟨m1, -, m3⟩ | ⟨m1, -, m3⟩ | ⟨m1, -, m3⟩ | ⟨m1, -, m3⟩
    all_goals
      have ke := kf.2.2.1 (by omega) (by omega)
      rw [m3]
      refine ⟨⟨by show 0 < e; omega, by show e ≤ n; omega⟩, ?_⟩
    · exact PQ_wrap h (by omega) p1
    · exact PQ_cg h ⟨rfl, rfl, rfl⟩ ⟨rfl, rfl, rfl, rfl, rfl⟩
    · exact PQ_beg h (by omega) p1 (fun _ => p0)
    · exact PQ_cg h ⟨rfl, rfl, rfl⟩ ⟨rfl, rfl, rfl, rfl, rfl⟩
theorem PY_Tr {y : ft_X} : ∀ (k : Nat) (x : ft_X), PY n x → PW x.1 → ft_Tr n c k x y → PY n y := by
  intro k
  induction k with
  | zero => intro x h _ e; have e : x = y := e; rw [← e]; exact h
  | succ k ih => intro x h hW e; obtain ⟨z, e1, e2⟩ := e; exact ih z (PY_T h hW e1) (PW_T hW e1) e2
theorem PQ_ruTr {s' : wk_g × Int} : ∀ (k : Nat) (s : wk_g × Int), (0 ≤ s.2 ∧ s.2 ≤ n) → PQ n s.1 → PW s.1 → ru_Tr n c k s s' → PQ n s'.1 := by
  intro k
  induction k with
  | zero => intro s _ h _ e; have e : s = s' := e; rw [← e]; exact h
  | succ k ih =>
    intro s a01 h hW e
    obtain ⟨z, ⟨v, p, e', v2, p2, e2', y, k1, -, -, k4, ⟨k', k5, v5, p5, k6, -⟩, k7⟩, e2⟩ := e
    have f1 := tk_f a01.2 k1
    have f2 := f1.2.2.1 (by decide) (by decide)
    have f3 := tk_f f2.2 k4
    have f4 := f3.2.2.1 (by decide) (by decide)
    have hW0 : PW (ru_x s.1 v p e2').1 := PW_beg (PW_cg (PW_form (g' := rf_rule s.1 v p) hW rfl rfl rfl (fun _ => rfl)) rfl rfl rfl rfl)
    have hQ0 : PQ n (rf_lvl (rf_rule s.1 v p) 0) := PQ_cg (PQ_rule (v := v) (p := p) h (by omega) (by omega)) ⟨rfl, rfl, rfl⟩ ⟨rfl, rfl, rfl, rfl, rfl⟩
    have t : PY n (ru_x s.1 v p e2') := ⟨⟨by show 0 < e2'; omega, by show e2' ≤ n; omega⟩, PQ_beg hQ0 (Int.le_refl _) (by omega) (fun q => by
      exfalso
      refine q ?_
      show (if (if (0 : Nat) = 0 then s.1 0 2 else s.1 146 0).toNat = (s.1 0 2).toNat then (0 : Int) else s.1 130 (if (0 : Nat) = 0 then s.1 0 2 else s.1 146 0).toNat) = 0
      rw [if_pos rfl, if_pos rfl])⟩
    obtain ⟨⟨b0, b1⟩, b2⟩ := PY_Tr k' _ t hW0 k5
    have f5 := (tk_f b1 k6)
    have f6 := f5.2.2.1 (by decide) (by decide)
    refine ih z ⟨by omega, by omega⟩ ?_ ?_ e2
    · rw [k7]; exact b2
    · rw [k7]; exact PW_Tr k' _ hW0 k5
theorem PQ_D {g0 : wk_g} (n0 : 0 ≤ n) (h0 : rz_0 g0) (h : rz_D n c g0 g) : PQ n g := by
  obtain ⟨k, a, h1, -⟩ := h
  have e := h0.1
  exact PQ_ruTr k (g0, 0) ⟨Int.le_refl _, n0⟩ ⟨⟨by show 0 ≤ g0 0 0; omega, by show 0 ≤ g0 0 1; omega, by show 0 ≤ g0 0 3; omega⟩, fun r hr => by have hr : (r : Int) < g0 0 3 := hr; omega, fun u hu => by have hu : (u : Int) < g0 0 0 := hu; omega, fun a ha => by have ha : (a : Int) < g0 0 1 := ha; omega⟩ (PW_0 h0) h1
end PQS
/-- the class's places -/
def TP (g : wk_g) (h : sm_H) : Prop := (mi_f h 7690 = g 0 0 ∧ mi_f h 7680 = g 0 3) ∧ (∀ r : Nat, (r : Int) < g 0 3 → mi_a h 62 r = g 113 r) ∧ (∀ a : Nat, (a : Int) < g 0 1 → g 127 a ≠ 0 → mi_a h 67 a = g 127 a) ∧ ∀ u : Nat, (u : Int) < g 0 0 → g 122 u ≠ 0 → mi_a h 73 u = g 123 u
theorem TP_of {f : Int → Int} {ow : Nat → Nat} {g : wk_g} {h : sm_H} (hU : CU f ow g (g 0 0) h) : TP g h := by
  obtain ⟨h0, s0, ⟨⟨c0, c1, c2, c3, c4⟩, d1, d2, d3, d4, d5, d6, d7, d8, d9, dw⟩, hF, h69⟩ := hU
  have a : ∀ k i, (mx_isA sx_sk k || mx_isB sx_sk k) = true → ab_in nu_W (k * 128) = false → mi_a h k i = mi_a h0 k i := fun k i x1 x2 => me_a (k := k) hF s0 x1 x2
  refine ⟨⟨(me_f (c := 7690) hF s0 rfl rfl).trans c0, (me_f (c := 7680) hF s0 rfl rfl).trans c2⟩, fun r hr => ?_, fun a' ha q => ?_, fun u hu q => ?_⟩
  · rw [a 62 _ rfl rfl]; exact d1 r hr
  · rw [a 67 _ rfl rfl]; exact (d6 a' ha).2.2 q
  · rw [a 73 _ rfl rfl]; exact (d7 u hu).2.2.2.2.2 q
