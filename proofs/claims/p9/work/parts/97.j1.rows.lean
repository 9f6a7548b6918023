/-! the class's rows beside the reference's; f: the class's number of a form -/
def cq_v (f : Int → Int) (g : wk_g) (u : Nat) : Int := if g 119 u = 9 then g 120 u + 65 else if g 119 u = 10 then f (g 120 u) else g 120 u
def cq_n (ow : Nat → Nat) (g : wk_g) (u : Nat) : Int := if 0 ≤ g 124 u then g 124 u else g 125 (ow u)
def FI (f : Int → Int) (g : wk_g) : Prop := (∀ r : Nat, (r : Int) < g 0 3 → (0 ≤ g 114 r ∧ g 114 r < g 0 2) ∧ f (g 114 r) = r) ∧ (∀ x, g 0 2 ≤ x → f x = 10 + x - g 0 3) ∧ (∀ x y, 0 ≤ x → x < g 0 2 → 0 ≤ y → y < g 0 2 → f x = f y → x = y) ∧ (∀ x, 0 ≤ x → x < g 0 2 → 0 ≤ f x ∧ f x < 10 + g 0 2 - g 0 3 ∧ (f x < g 0 3 ∨ 10 ≤ f x))
def CQ (f : Int → Int) (ow : Nat → Nat) (g : wk_g) (h : sm_H) : Prop :=
  (mi_f h 7690 = g 0 0 ∧ mi_f h 7686 = g 0 1 ∧ mi_f h 7680 = g 0 3 ∧ mi_f h 7698 = g 0 4 ∧ mi_f h 7685 = g 0 2 - g 0 3) ∧
  (∀ r : Nat, (r : Int) < g 0 3 → mi_a h 62 r = g 113 r) ∧
  (∀ v : Nat, v < 26 → 0 ≤ g 115 v → g 115 v < g 0 3 ∧ mi_a h 61 (g 115 v).toNat = v + 65) ∧
  (∀ r : Nat, (r : Int) < g 0 3 → ∃ v : Nat, v < 26 ∧ mi_a h 61 r = v + 65 ∧ g 115 v = r) ∧
  (∀ x : Nat, (x : Int) < g 0 2 → mi_a h 63 (f x).toNat = g 129 x ∧ mi_a h 64 (f x).toNat = g 130 x) ∧
  (∀ j : Nat, j < 70 → (∀ x : Nat, (x : Int) < g 0 2 → f x ≠ j) → mi_a h 63 j = -1 ∧ mi_a h 64 j = 0) ∧
  (∀ a : Nat, (a : Int) < g 0 1 → mi_a h 65 a = g 126 a ∧ mi_a h 66 a = g 128 a ∧ (g 127 a ≠ 0 → mi_a h 67 a = g 127 a)) ∧
  (∀ u : Nat, (u : Int) < g 0 0 → mi_a h 68 u = g 119 u ∧ mi_a h 69 u = cq_v f g u ∧ mi_a h 70 u = g 121 u ∧ mi_a h 71 u = cq_n ow g u ∧ mi_a h 72 u = (if g 122 u = 0 then 0 else g 122 u + 4) ∧ (g 122 u ≠ 0 → mi_a h 73 u = g 123 u)) ∧
  (∀ l : Nat, (l : Int) < g 0 4 → mi_a h 75 l = g 117 l) ∧
  (∀ u : Nat, (u : Int) < g 0 0 → (g 119 u = 10 → 0 ≤ g 120 u ∧ g 120 u < g 0 2) ∧ (g 119 u = 9 → 0 ≤ g 120 u ∧ g 120 u < 26)) ∧ sW g h
theorem CQ_w {f : Int → Int} {ow : Nat → Nat} {g : wk_g} {h : sm_H} (hq : CQ f ow g h) : sW g h := by
  obtain ⟨-, -, -, -, -, -, -, -, -, -, w⟩ := hq
  exact w
section CQL
variable {f : Int → Int} {ow : Nat → Nat} {g : wk_g} {h h' : sm_H} {m : Int}
theorem CQ_fr (hq : CQ f ow g h) (hS : ab_Sh sx_sk h) {wr : List (Nat × Nat)} (hF : ab_Fr wr h h') (hw : (ab_in wr 7680 || ab_in wr 7685 || ab_in wr 7686 || ab_in wr 7690 || ab_in wr 7698 || [61, 62, 63, 64, 65, 66, 67, 68, 69, 70, 71, 72, 73, 74, 75].any (fun r => ab_in wr (r * 128))) = false) : CQ f ow g h' := by
  simp only [Bool.or_eq_false_iff] at hw
  obtain ⟨⟨⟨⟨⟨w0, w1⟩, w2⟩, w3⟩, w4⟩, w5⟩ := hw
  have a : ∀ r, r ∈ [61, 62, 63, 64, 65, 66, 67, 68, 69, 70, 71, 72, 73, 74, 75] → ∀ i, mi_a h' r i = mi_a h r i := fun r hr i => by
    have n := List.any_eq_false.mp w5 r hr
    have all : [61, 62, 63, 64, 65, 66, 67, 68, 69, 70, 71, 72, 73, 74, 75].all (fun r => mx_isA sx_sk r || mx_isB sx_sk r) = true := by decide
    exact me_a hF hS (List.all_eq_true.mp all r hr) (by simpa using n)
  have a61 := a 61 (by decide)
  have a62 := a 62 (by decide)
  have a63 := a 63 (by decide)
  have a64 := a 64 (by decide)
  have a65 := a 65 (by decide)
  have a66 := a 66 (by decide)
  have a67 := a 67 (by decide)
  have a68 := a 68 (by decide)
  have a69 := a 69 (by decide)
  have a70 := a 70 (by decide)
  have a71 := a 71 (by decide)
  have a72 := a 72 (by decide)
  have a73 := a 73 (by decide)
  have a74 := a 74 (by decide)
  have a75 := a 75 (by decide)
  have f0 : mi_f h' 7680 = mi_f h 7680 := me_f (c := 7680) hF hS rfl w0
  have f1 : mi_f h' 7685 = mi_f h 7685 := me_f (c := 7685) hF hS rfl w1
  have f2 : mi_f h' 7686 = mi_f h 7686 := me_f (c := 7686) hF hS rfl w2
  have f3 : mi_f h' 7690 = mi_f h 7690 := me_f (c := 7690) hF hS rfl w3
  have f4 : mi_f h' 7698 = mi_f h 7698 := me_f (c := 7698) hF hS rfl w4
  unfold CQ sW at hq ⊢
  simp only [a61, a62, a63, a64, a65, a66, a67, a68, a69, a70, a71, a72, a73, a74, a75, f0, f1, f2, f3, f4]
  exact hq
/-- an alternative is begun -/
theorem CQ_beg {p zb zp : Int} (hq : CQ f ow g h) (hS : ab_Sh sx_sk h) (hP : PI ow g m) (hf : FI f g) (hF : ab_Fr ga_W h h') (hR : ga_R h h' (f (g 146 (g 0 5).toNat)) zb zp) (hb : zb = if g 130 (g 146 (g 0 5).toNat).toNat = 0 then -1 else g 147 (g 0 5).toNat) (h147 : g 130 (g 146 (g 0 5).toNat).toNat ≠ 0 → 0 ≤ g 147 (g 0 5).toNat) (hp : p ≠ 0 → zp = p) (hn : swN g (g 0 5)) : CQ f ow (rf_beg g p) h' := by
  obtain ⟨⟨p1, p2, p3, p4, p5, p6⟩, q1, q2, q3, q4, q5, q6, q7, q8⟩ := hP
  obtain ⟨⟨c0, c1, c2, c3, c4⟩, d1, d2, d3, d4, d5, d6, d7, d8, d9, dw⟩ := hq
  obtain ⟨r1, r2, r3, r4, r5, r6⟩ := hR
  obtain ⟨F1, F2, F3, F4⟩ := hf
  obtain ⟨x, hx⟩ : ∃ x, x = g 146 (g 0 5).toNat := ⟨_, rfl⟩
  have x01 := q2 (g 0 5).toNat (by omega)
  rw [← hx] at r2 r3 hb h147 x01
  have fx := F4 x x01.1 x01.2
  have b130 : ∀ i, rf_beg g p 130 i = if i = x.toNat then g 130 i + 1 else g 130 i := fun i => by rw [hx]; rfl
  have b129 : ∀ i, rf_beg g p 129 i = if g 130 x.toNat = 0 ∧ i = x.toNat then g 0 1 else g 129 i := fun i => by rw [hx]; rfl
  have b128 : ∀ i, rf_beg g p 128 i = if g 130 x.toNat ≠ 0 ∧ i = (g 147 (g 0 5).toNat).toNat then g 0 1 else if i = (g 0 1).toNat then -1 else g 128 i := fun i => by rw [hx]; rfl
  have b127 : ∀ i, rf_beg g p 127 i = if i = (g 0 1).toNat then p else g 127 i := fun i => rfl
  have b126 : ∀ i, rf_beg g p 126 i = if i = (g 0 1).toNat then -1 else g 126 i := fun i => rfl
  have ez : zb = -1 ↔ g 130 x.toNat = 0 := by
    by_cases c : g 130 x.toNat = 0
    · rw [if_pos c] at hb
      exact ⟨fun _ => c, fun _ => hb⟩
    · rw [if_neg c] at hb
      have := h147 c
      exact ⟨fun y => by omega, fun y => absurd y c⟩
  refine ⟨⟨?_, ?_, ?_, ?_, ?_⟩, fun r hr => ?_, fun v v1 v2 => ?_, fun r hr => ?_, fun y hy => ?_, fun j j1 j2 => ?_, fun a ha => ?_, fun u hu => ?_, fun l hl => ?_, d9, sW_fr (sW_beg dw (by omega) hn) hS hF rfl⟩
  · exact (me_f (c := 7690) hF hS rfl rfl).trans c0
  · rw [r1, c1]; rfl
  · exact (me_f (c := 7680) hF hS rfl rfl).trans c2
  · exact (me_f (c := 7698) hF hS rfl rfl).trans c3
  · exact (me_f (c := 7685) hF hS rfl rfl).trans c4
  · rw [me_a (k := 62) hF hS rfl rfl]; exact d1 r hr
  · rw [me_a (k := 61) hF hS rfl rfl]; exact d2 v v1 v2
  · rw [me_a (k := 61) hF hS rfl rfl]; exact d3 r hr
  · have hy : (y : Int) < g 0 2 := hy
    have fy := F4 y (by omega) hy
    have key : (f y).toNat = (f x).toNat ↔ y = x.toNat := ⟨fun e => by
      have := F3 y x (by omega) hy x01.1 x01.2 (by omega)
      omega, fun e => by rw [e, Int.toNat_of_nonneg x01.1]⟩
    obtain ⟨u1, u2⟩ := d4 y hy
    rw [r2, r3, b129, b130]
    by_cases c : y = x.toNat
    · have ke := key.mpr c
      refine ⟨?_, ?_⟩
      · by_cases cz : zb = -1
        · rw [if_pos ⟨cz, ke⟩, if_pos ⟨ez.mp cz, c⟩, c1]
        · rw [if_neg (fun t => cz t.1), if_neg (fun t => cz (ez.mpr t.1)), u1]
      · rw [if_pos ke, if_pos c, u2]
    · have ke : ¬ (f y).toNat = (f x).toNat := fun t => c (key.mp t)
      rw [if_neg (fun t => ke t.2), if_neg ke, if_neg (fun t => c t.2), if_neg c]
      exact ⟨u1, u2⟩
  · have j2 : ∀ y : Nat, (y : Int) < g 0 2 → f y ≠ j := j2
    have n := j2 x.toNat (by omega)
    rw [Int.toNat_of_nonneg x01.1] at n
    rw [r2, r3, if_neg (fun t => by omega), if_neg (by omega)]
    exact d5 j j1 j2
  · have ha : (a : Int) < g 0 1 + 1 := ha
    rw [r4, r5, r6, b126, b127, b128, c1]
    by_cases c : a = (g 0 1).toNat
    · rw [if_pos c, if_pos c, if_pos c, if_pos c, if_pos c, if_pos c]
      refine ⟨rfl, ?_, hp⟩
      by_cases cz : zb = -1
      · rw [if_neg (fun t => t.1 cz), if_neg (fun t => t.1 (ez.mp cz))]
      · have cz' : g 130 x.toNat ≠ 0 := fun t => cz (ez.mpr t)
        rw [if_neg cz'] at hb
        rw [hb]
        by_cases ci : a = (g 147 (g 0 5).toNat).toNat
        · rw [if_pos ⟨by rw [← hb]; exact cz, ci⟩, if_pos ⟨cz', ci⟩]
        · rw [if_neg (fun t => ci t.2), if_neg (fun t => ci t.2)]
    · rw [if_neg c, if_neg c, if_neg c, if_neg c, if_neg c, if_neg c]
      obtain ⟨u1, u2, u3⟩ := d6 a (by omega)
      refine ⟨u1, ?_, u3⟩
      by_cases cz : zb = -1
      · rw [if_neg (fun t => t.1 cz), if_neg (fun t => t.1 (ez.mp cz))]
        exact u2
      · have cz' : g 130 x.toNat ≠ 0 := fun t => cz (ez.mpr t)
        rw [if_neg cz'] at hb
        rw [hb]
        by_cases ci : a = (g 147 (g 0 5).toNat).toNat
        · rw [if_pos ⟨by rw [← hb]; exact cz, ci⟩, if_pos ⟨cz', ci⟩]
        · rw [if_neg (fun t => ci t.2), if_neg (fun t => ci t.2)]
          exact u2
  · rw [me_a (k := 68) hF hS rfl rfl, me_a (k := 69) hF hS rfl rfl, me_a (k := 70) hF hS rfl rfl, me_a (k := 71) hF hS rfl rfl, me_a (k := 72) hF hS rfl rfl, me_a (k := 73) hF hS rfl rfl]
    exact d7 u hu
  · rw [me_a (k := 75) hF hS rfl rfl]; exact d8 l hl
/-- a unit is hung up -/
theorem CQ_put {u : Int} (hq : CQ f ow g h) (hS : ab_Sh sx_sk h) (hP : PI ow g (g 0 5)) (hu : pi_un g u) (hF : ab_Fr [(8320, 8321), (9088, 9089)] h h') (r1 : ∀ i, mi_a h' 65 i = if g 150 (g 0 5).toNat = -1 ∧ i = (g 147 (g 0 5).toNat).toNat then u else mi_a h 65 i) (r2 : ∀ i, mi_a h' 71 i = if g 150 (g 0 5).toNat ≠ -1 ∧ i = (g 150 (g 0 5).toNat).toNat then u else mi_a h 71 i) : CQ f (ow_put g ow u) (rf_put g u) h' := by
  have hou := pi_uno hP hu
  have sw := sW_fr (sW_put (u := u) (CQ_w hq) hP hu.1.1) hS hF rfl
  obtain ⟨⟨p1, p2, p3, p4, p5, p6⟩, q1, q2, q3, q4, q5, q6, q7, q8⟩ := hP
  obtain ⟨⟨c0, c1, c2, c3, c4⟩, d1, d2, d3, d4, d5, d6, d7, d8, d9, dw⟩ := hq
  obtain ⟨k, hk⟩ : ∃ k, k = (g 0 5).toNat := ⟨_, rfl⟩
  rw [← hk] at r1 r2
  have a124 : ∀ i, rf_put g u 124 i = if g 151 k ≠ 0 ∧ i = (g 149 k).toNat then u else g 124 i := fun i => by rw [hk]; rfl
  have a125 : ∀ i, rf_put g u 125 i = if g 151 k = 0 ∧ 0 ≤ g 149 k ∧ i = (g 149 k).toNat then u else g 125 i := fun i => by rw [hk]; rfl
  have a126 : ∀ i, rf_put g u 126 i = if g 151 k = 0 ∧ g 149 k < 0 ∧ i = (g 147 k).toNat then u else g 126 i := fun i => by rw [hk]; rfl
  have aow : ∀ v, ow_put g ow u v = if g 151 k ≠ 0 ∧ v = u.toNat then (g 149 k).toNat else ow v := fun v => by rw [hk]; rfl
  obtain ⟨⟨u0, u1⟩, u2, u3, u4, u5⟩ := hu
  obtain ⟨l1, l2, l3, l4, l5, l6⟩ := q1 k (by omega)
  refine ⟨⟨?_, ?_, ?_, ?_, ?_⟩, fun r hr => ?_, fun v v1 v2 => ?_, fun r hr => ?_, fun y hy => ?_, fun j j1 j2 => ?_, fun a ha => ?_, fun v hv => ?_, fun l hl => ?_, d9, sw⟩
  · exact (me_f (c := 7690) hF hS rfl rfl).trans c0
  · exact (me_f (c := 7686) hF hS rfl rfl).trans c1
  · exact (me_f (c := 7680) hF hS rfl rfl).trans c2
  · exact (me_f (c := 7698) hF hS rfl rfl).trans c3
  · exact (me_f (c := 7685) hF hS rfl rfl).trans c4
  · rw [me_a (k := 62) hF hS rfl rfl]; exact d1 r hr
  · rw [me_a (k := 61) hF hS rfl rfl]; exact d2 v v1 v2
  · rw [me_a (k := 61) hF hS rfl rfl]; exact d3 r hr
  · rw [me_a (k := 63) hF hS rfl rfl, me_a (k := 64) hF hS rfl rfl]; exact d4 y hy
  · rw [me_a (k := 63) hF hS rfl rfl, me_a (k := 64) hF hS rfl rfl]; exact d5 j j1 j2
  · obtain ⟨x1, x2, x3⟩ := d6 a ha
    rw [me_a (k := 66) hF hS rfl rfl, me_a (k := 67) hF hS rfl rfl, r1, a126]
    refine ⟨?_, x2, x3⟩
    by_cases c : g 150 k = -1 ∧ a = (g 147 k).toNat
    · have l9 : g 149 k < 0 := by omega
      have s0 : g 151 k = 0 := by
        by_cases y : g 151 k = 0
        · exact y
        · have := l6 y
          omega
      rw [if_pos c, if_pos ⟨s0, l9, c.2⟩]
    · rw [if_neg c, if_neg (fun t => c ⟨by omega, t.2.2⟩)]
      exact x1
  · have hv : (v : Int) < g 0 0 := hv
    obtain ⟨x1, x2, x3, x4, x5, x6⟩ := d7 v hv
    obtain ⟨w1, w2, w3, w4, w5⟩ := q6 v hv
    rw [me_a (k := 68) hF hS rfl rfl, me_a (k := 69) hF hS rfl rfl, me_a (k := 70) hF hS rfl rfl, me_a (k := 72) hF hS rfl rfl, me_a (k := 73) hF hS rfl rfl, r2, x4]
    refine ⟨x1, x2, x3, ?_, x5, x6⟩
    unfold cq_n
    rw [a124, a125, aow]
    by_cases cs : g 151 k = 0
    · rw [if_neg (c := g 151 k ≠ 0 ∧ v = (g 149 k).toNat) (fun t => t.1 cs), if_neg (c := g 151 k ≠ 0 ∧ v = u.toNat) (fun t => t.1 cs)]
      by_cases c9 : 0 ≤ g 149 k
      · have c50 : 0 ≤ g 150 k := by omega
        obtain ⟨o1, o2, o3⟩ := l5 c50
        by_cases ci : v = (g 150 k).toNat
        · rw [if_pos ⟨by omega, ci⟩, if_neg (by rw [ci, o2]; omega), if_pos ⟨cs, c9, by rw [ci]; exact o1⟩]
        · rw [if_neg (c := g 150 k ≠ -1 ∧ v = (g 150 k).toNat) (fun t => ci t.2)]
          by_cases cm : 0 ≤ g 124 v
          · rw [if_pos cm, if_pos cm]
          · rw [if_neg cm, if_neg cm, if_neg]
            intro t
            /- v and the last unit have one owner: both are it, or the same second one -/
            have tv := t.2.2
            apply ci
            rcases w5 with w5 | ⟨w5, w6⟩
            · rw [w5] at tv
              /- v is the last item -/
              have e2 := (q6 (g 150 k).toNat (by omega)).2.2.2.2
              rcases e2 with e2 | ⟨e2, e3⟩
              · omega
              · rw [o1, ← tv] at e3
                exfalso
                omega
            · rw [tv] at w6
              have e2 := (q6 (g 150 k).toNat (by omega)).2.2.2.2
              rcases e2 with e2 | ⟨e2, e3⟩
              · rw [← o1, e2] at w6
                rw [o2] at w6
                omega
              · rw [o1, w6] at e3
                omega
      · have c50 : g 150 k < 0 := by omega
        rw [if_neg (c := g 150 k ≠ -1 ∧ v = (g 150 k).toNat) (fun t => by omega)]
        by_cases cm : 0 ≤ g 124 v
        · rw [if_pos cm, if_pos cm]
        · rw [if_neg cm, if_neg cm, if_neg (fun t => c9 t.2.1)]
    · obtain ⟨l9, l50⟩ := l6 cs
      obtain ⟨o1, o2, o3⟩ := l5 (by omega)
      rw [l50] at o1 o2 ⊢
      by_cases ci : v = (g 149 k).toNat
      · rw [if_pos ⟨by omega, ci⟩, if_pos (c := g 151 k ≠ 0 ∧ v = (g 149 k).toNat) ⟨cs, ci⟩, if_pos u0]
      · rw [if_neg (c := g 149 k ≠ -1 ∧ v = (g 149 k).toNat) (fun t => ci t.2), if_neg (c := g 151 k ≠ 0 ∧ v = (g 149 k).toNat) (fun t => ci t.2)]
        by_cases cm : 0 ≤ g 124 v
        · rw [if_pos cm, if_pos cm]
        · rw [if_neg cm, if_neg cm]
          by_cases cu : v = u.toNat
          · rw [if_pos (c := g 151 k ≠ 0 ∧ v = u.toNat) ⟨cs, cu⟩, if_neg (c := g 151 k = 0 ∧ 0 ≤ g 149 k ∧ (g 149 k).toNat = (g 149 k).toNat) (fun t => cs t.1), o3, cu, hou, u3]
          · rw [if_neg (c := g 151 k ≠ 0 ∧ v = u.toNat) (fun t => cu t.2), if_neg (c := g 151 k = 0 ∧ 0 ≤ g 149 k ∧ ow v = (g 149 k).toNat) (fun t => cs t.1)]
  · rw [me_a (k := 75) hF hS rfl rfl]; exact d8 l hl
/-- a unit is repeated -/
theorem CQ_wrap {u w p : Int} (hq : CQ f ow g h) (hS : ab_Sh sx_sk h) (hF : ab_Fr [(9216, 9217), (9344, 9345)] h h') (w0 : w ≠ 0) (r1 : ∀ i, mi_a h' 72 i = if i = u.toNat then w + 4 else mi_a h 72 i) (r2 : ∀ i, mi_a h' 73 i = if i = u.toNat then p else mi_a h 73 i) : CQ f ow (rf_wrap g u w p) h' := by
  obtain ⟨⟨c0, c1, c2, c3, c4⟩, d1, d2, d3, d4, d5, d6, d7, d8, d9, dw⟩ := hq
  have b122 : ∀ i, rf_wrap g u w p 122 i = if i = u.toNat then w else g 122 i := fun i => rfl
  have b123 : ∀ i, rf_wrap g u w p 123 i = if i = u.toNat then p else g 123 i := fun i => rfl
  refine ⟨⟨?_, ?_, ?_, ?_, ?_⟩, fun r hr => ?_, fun v v1 v2 => ?_, fun r hr => ?_, fun y hy => ?_, fun j j1 j2 => ?_, fun a ha => ?_, fun v hv => ?_, fun l hl => ?_, d9, sW_fr (sW_cg dw ⟨rfl, rfl⟩ ⟨rfl, rfl, rfl, rfl⟩) hS hF rfl⟩
  · exact (me_f (c := 7690) hF hS rfl rfl).trans c0
  · exact (me_f (c := 7686) hF hS rfl rfl).trans c1
  · exact (me_f (c := 7680) hF hS rfl rfl).trans c2
  · exact (me_f (c := 7698) hF hS rfl rfl).trans c3
  · exact (me_f (c := 7685) hF hS rfl rfl).trans c4
  · rw [me_a (k := 62) hF hS rfl rfl]; exact d1 r hr
  · rw [me_a (k := 61) hF hS rfl rfl]; exact d2 v v1 v2
  · rw [me_a (k := 61) hF hS rfl rfl]; exact d3 r hr
  · rw [me_a (k := 63) hF hS rfl rfl, me_a (k := 64) hF hS rfl rfl]; exact d4 y hy
  · rw [me_a (k := 63) hF hS rfl rfl, me_a (k := 64) hF hS rfl rfl]; exact d5 j j1 j2
  · rw [me_a (k := 65) hF hS rfl rfl, me_a (k := 66) hF hS rfl rfl, me_a (k := 67) hF hS rfl rfl]; exact d6 a ha
  · obtain ⟨x1, x2, x3, x4, x5, x6⟩ := d7 v hv
    rw [me_a (k := 68) hF hS rfl rfl, me_a (k := 69) hF hS rfl rfl, me_a (k := 70) hF hS rfl rfl, me_a (k := 71) hF hS rfl rfl, r1, r2, b122, b123]
    refine ⟨x1, x2, x3, x4, ?_, ?_⟩
    · by_cases c : v = u.toNat
      · rw [if_pos c, if_pos c, if_neg w0]
      · rw [if_neg c, if_neg c]; exact x5
    · by_cases c : v = u.toNat
      · rw [if_pos c, if_pos c, if_pos c]; exact fun _ => rfl
      · rw [if_neg c, if_neg c, if_neg c]; exact x6
  · rw [me_a (k := 75) hF hS rfl rfl]; exact d8 l hl
/-- the last item is to have a mate -/
theorem CQ_swap (hq : CQ f ow g h) (hS : ab_Sh sx_sk h) (hP : PI ow g (g 0 5)) (hF : ab_Fr [(9472, 9473)] h h') (s0 : 0 ≤ g 149 (g 0 5).toNat) (z0 : g 151 (g 0 5).toNat = 0) (r74 : ∀ i, mi_a h' 74 i = if i = (g 149 (g 0 5).toNat).toNat then 1 else mi_a h 74 i) : CQ f ow (rf_swap g) h' := by
  obtain ⟨⟨c0, c1, c2, c3, c4⟩, d1, d2, d3, d4, d5, d6, d7, d8, d9, dw⟩ := hq
  refine ⟨⟨?_, ?_, ?_, ?_, ?_⟩, fun r hr => ?_, fun v v1 v2 => ?_, fun r hr => ?_, fun y hy => ?_, fun j j1 j2 => ?_, fun a ha => ?_, fun v hv => ?_, fun l hl => ?_, d9, sW_swap dw hP s0 z0 r74⟩
  · exact (me_f (c := 7690) hF hS rfl rfl).trans c0
  · exact (me_f (c := 7686) hF hS rfl rfl).trans c1
  · exact (me_f (c := 7680) hF hS rfl rfl).trans c2
  · exact (me_f (c := 7698) hF hS rfl rfl).trans c3
  · exact (me_f (c := 7685) hF hS rfl rfl).trans c4
  · rw [me_a (k := 62) hF hS rfl rfl]; exact d1 r hr
  · rw [me_a (k := 61) hF hS rfl rfl]; exact d2 v v1 v2
  · rw [me_a (k := 61) hF hS rfl rfl]; exact d3 r hr
  · rw [me_a (k := 63) hF hS rfl rfl, me_a (k := 64) hF hS rfl rfl]; exact d4 y hy
  · rw [me_a (k := 63) hF hS rfl rfl, me_a (k := 64) hF hS rfl rfl]; exact d5 j j1 j2
  · rw [me_a (k := 65) hF hS rfl rfl, me_a (k := 66) hF hS rfl rfl, me_a (k := 67) hF hS rfl rfl]; exact d6 a ha
  · rw [me_a (k := 68) hF hS rfl rfl, me_a (k := 69) hF hS rfl rfl, me_a (k := 70) hF hS rfl rfl, me_a (k := 71) hF hS rfl rfl, me_a (k := 72) hF hS rfl rfl, me_a (k := 73) hF hS rfl rfl]; exact d7 v hv
  · rw [me_a (k := 75) hF hS rfl rfl]; exact d8 l hl
/-- a unit's word is written -/
theorem CQ_word {u w : Int} (hq : CQ f ow g h) (hS : ab_Sh sx_sk h) (hF : ab_Fr [(8832, 8833)] h h') (n9 : g 119 u.toNat ≠ 9) (n10 : g 119 u.toNat ≠ 10) (r1 : ∀ i, mi_a h' 69 i = if i = u.toNat then w else mi_a h 69 i) : CQ f ow (rf_word g u w) h' := by
  obtain ⟨⟨c0, c1, c2, c3, c4⟩, d1, d2, d3, d4, d5, d6, d7, d8, d9, dw⟩ := hq
  have b120 : ∀ i, rf_word g u w 120 i = if i = u.toNat then w else g 120 i := fun i => rfl
  refine ⟨⟨?_, ?_, ?_, ?_, ?_⟩, fun r hr => ?_, fun v v1 v2 => ?_, fun r hr => ?_, fun y hy => ?_, fun j j1 j2 => ?_, fun a ha => ?_, fun v hv => ?_, fun l hl => ?_, fun v hv => ?_, sW_fr (sW_cg dw ⟨rfl, rfl⟩ ⟨rfl, rfl, rfl, rfl⟩) hS hF rfl⟩
  · exact (me_f (c := 7690) hF hS rfl rfl).trans c0
  · exact (me_f (c := 7686) hF hS rfl rfl).trans c1
  · exact (me_f (c := 7680) hF hS rfl rfl).trans c2
  · exact (me_f (c := 7698) hF hS rfl rfl).trans c3
  · exact (me_f (c := 7685) hF hS rfl rfl).trans c4
  · rw [me_a (k := 62) hF hS rfl rfl]; exact d1 r hr
  · rw [me_a (k := 61) hF hS rfl rfl]; exact d2 v v1 v2
  · rw [me_a (k := 61) hF hS rfl rfl]; exact d3 r hr
  · rw [me_a (k := 63) hF hS rfl rfl, me_a (k := 64) hF hS rfl rfl]; exact d4 y hy
  · rw [me_a (k := 63) hF hS rfl rfl, me_a (k := 64) hF hS rfl rfl]; exact d5 j j1 j2
  · rw [me_a (k := 65) hF hS rfl rfl, me_a (k := 66) hF hS rfl rfl, me_a (k := 67) hF hS rfl rfl]; exact d6 a ha
  · obtain ⟨x1, x2, x3, x4, x5, x6⟩ := d7 v hv
    rw [me_a (k := 68) hF hS rfl rfl, me_a (k := 70) hF hS rfl rfl, me_a (k := 71) hF hS rfl rfl, me_a (k := 72) hF hS rfl rfl, me_a (k := 73) hF hS rfl rfl, r1]
    refine ⟨x1, ?_, x3, x4, x5, x6⟩
    show _ = (if g 119 v = 9 then rf_word g u w 120 v + 65 else if g 119 v = 10 then f (rf_word g u w 120 v) else rf_word g u w 120 v)
    rw [b120]
    by_cases c : v = u.toNat
    · rw [if_pos c, if_pos c, if_neg (by rw [c]; exact n9), if_neg (by rw [c]; exact n10)]
    · rw [if_neg c, if_neg c]; exact x2
  · rw [me_a (k := 75) hF hS rfl rfl]; exact d8 l hl
  · obtain ⟨x1, x2⟩ := d9 v hv
    show (g 119 v = 10 → 0 ≤ rf_word g u w 120 v ∧ rf_word g u w 120 v < g 0 2) ∧ (g 119 v = 9 → 0 ≤ rf_word g u w 120 v ∧ rf_word g u w 120 v < 26)
    rw [b120]
    by_cases c : v = u.toNat
    · exact ⟨fun y => by rw [c] at y; exact absurd y n10, fun y => by rw [c] at y; exact absurd y n9⟩
    · rw [if_neg c]; exact ⟨x1, x2⟩
end CQL
