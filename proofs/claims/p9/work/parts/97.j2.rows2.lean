/-! the class's rows: a unit, a group, a rule -/
theorem FI_cg {f : Int → Int} {g g' : wk_g} (hf : FI f g) (e2 : g' 0 2 = g 0 2) (e3 : g' 0 3 = g 0 3) (e : ∀ i, g' 114 i = g 114 i) : FI f g' := by
  unfold FI at hf ⊢
  simp only [e2, e3, e]
  exact hf
section CQM
variable {f : Int → Int} {ow : Nat → Nat} {g gl : wk_g} {h h' : sm_H} {m s w p zv : Int}
def cu_W : List (Nat × Nat) := [(7685, 7686), (7690, 7691), (7698, 7699), (8704, 8705), (8832, 8833), (8960, 8961), (9088, 9089), (9216, 9217), (9344, 9345), (9472, 9473), (9600, 9601), (9857, 9861)]
theorem CQ_unit (hq : CQ f ow g h) (hS : ab_Sh sx_sk h) (hP : PI ow g m) (hU : g 0 0 < 60) (gr : ∀ r, r ≠ 0 → r ≠ 117 → gl r = g r) (g0 : ∀ i, i ≠ 4 → gl 0 i = g 0 i) (hF : ab_Fr cu_W h h') (n0 : mi_f h' 7685 = mi_f h 7685) (n1 : mi_f h' 7690 = mi_f h 7690 + 1) (n2 : mi_f h' 7698 = gl 0 4) (rl : ∀ l : Nat, (l : Int) < gl 0 4 → mi_a h' 75 l = gl 117 l)
    (r68 : ∀ i, mi_a h' 68 i = if i = (mi_f h 7690).toNat then s else mi_a h 68 i) (r69 : ∀ i, mi_a h' 69 i = if i = (mi_f h 7690).toNat then zv else mi_a h 69 i) (r70 : ∀ i, mi_a h' 70 i = if i = (mi_f h 7690).toNat then p else mi_a h 70 i) (r71 : ∀ i, mi_a h' 71 i = if i = (mi_f h 7690).toNat then -1 else mi_a h 71 i) (r72 : ∀ i, mi_a h' 72 i = if i = (mi_f h 7690).toNat then 0 else mi_a h 72 i) (r73 : ∀ i, i ≠ (mi_f h 7690).toNat → mi_a h' 73 i = mi_a h 73 i)
    (hv : zv = if s = 9 then w + 65 else w) (h10 : s ≠ 10) (h9 : s = 9 → 0 ≤ w ∧ w < 26) (h149 : ∀ i : Nat, (i : Int) ≤ g 0 5 → g 149 i < g 0 0) (r74 : ∀ i, mi_a h' 74 i = if i = (mi_f h 7690).toNat then 0 else mi_a h 74 i) : CQ f (ow_new g ow) (rf_unit gl s w p) h' := by
  obtain ⟨⟨p1, p2, p3, p4, p5, p6⟩, q1, q2, q3, q4, q5, q6, q7, q8⟩ := hP
  obtain ⟨⟨c0, c1, c2, c3, c4⟩, d1, d2, d3, d4, d5, d6, d7, d8, d9, dw⟩ := hq
  have sw : sW (rf_unit gl s w p) h' := by
    refine sW_unit (g := gl) (h := h) (sW_cg dw ⟨g0 0 (by decide), g0 5 (by decide)⟩ ⟨gr 124 (by decide) (by decide), gr 148 (by decide) (by decide), gr 149 (by decide) (by decide), gr 151 (by decide) (by decide)⟩) (by rw [g0 0 (by decide)]; omega) (fun i hi => ?_) (fun i => ?_)
    · rw [gr 149 (by decide) (by decide), g0 0 (by decide)]
      rw [g0 5 (by decide)] at hi
      exact h149 i hi
    · rw [r74, g0 0 (by decide), c0]
  obtain ⟨g', hg⟩ : ∃ g', g' = rf_unit gl s w p := ⟨_, rfl⟩
  rw [← hg] at sw ⊢
  have z00 := g0 0 (by decide)
  have z0 : g' 0 0 = g 0 0 + 1 := by rw [hg, ← z00]; rfl
  have z1 : g' 0 1 = g 0 1 := by rw [hg, ← g0 1 (by decide)]; rfl
  have z2 : g' 0 2 = g 0 2 := by rw [hg, ← g0 2 (by decide)]; rfl
  have z3 : g' 0 3 = g 0 3 := by rw [hg, ← g0 3 (by decide)]; rfl
  have z4 : g' 0 4 = gl 0 4 := by rw [hg]; rfl
  have b119 : ∀ i, g' 119 i = if i = (g 0 0).toNat then s else g 119 i := fun i => by rw [hg, ← z00, ← gr 119 (by decide) (by decide)]; rfl
  have b120 : ∀ i, g' 120 i = if i = (g 0 0).toNat then w else g 120 i := fun i => by rw [hg, ← z00, ← gr 120 (by decide) (by decide)]; rfl
  have b121 : ∀ i, g' 121 i = if i = (g 0 0).toNat then p else g 121 i := fun i => by rw [hg, ← z00, ← gr 121 (by decide) (by decide)]; rfl
  have b122 : ∀ i, g' 122 i = if i = (g 0 0).toNat then 0 else g 122 i := fun i => by rw [hg, ← z00, ← gr 122 (by decide) (by decide)]; rfl
  have b124 : ∀ i, g' 124 i = if i = (g 0 0).toNat then -1 else g 124 i := fun i => by rw [hg, ← z00, ← gr 124 (by decide) (by decide)]; rfl
  have b125 : ∀ i, g' 125 i = if i = (g 0 0).toNat then -1 else g 125 i := fun i => by rw [hg, ← z00, ← gr 125 (by decide) (by decide)]; rfl
  have b : ∀ r, r ∈ [113, 114, 115, 123, 126, 127, 128, 129, 130] → ∀ i, g' r i = g r i := fun r hr i => by
    simp only [List.mem_cons, List.not_mem_nil, or_false] at hr
    rw [hg]
    rcases hr with rfl | rfl | rfl | rfl | rfl | rfl | rfl | rfl | rfl <;> exact congrFun (gr _ (by decide) (by decide)) i
  have b117 : ∀ i, g' 117 i = gl 117 i := fun i => by rw [hg]; rfl
  clear hg
  have on : ∀ v : Nat, (v : Int) < g 0 0 → ow_new g ow v = ow v := fun v hv => by
    unfold ow_new
    rw [if_neg (by omega)]
  rw [c0] at r68 r69 r70 r71 r72 r73
  refine ⟨⟨by omega, ?_, ?_, by omega, by omega⟩, fun r hr => ?_, fun v v1 v2 => ?_, fun r hr => ?_, fun y hy => ?_, fun j j1 j2 => ?_, fun a ha => ?_, fun u hu => ?_, fun l hl => ?_, fun u hu => ?_, sw⟩
  · rw [me_f (c := 7686) hF hS rfl rfl, z1]; exact c1
  · rw [me_f (c := 7680) hF hS rfl rfl, z3]; exact c2
  · rw [me_a (k := 62) hF hS rfl rfl, b 113 (by decide)]; exact d1 r (by omega)
  · rw [b 115 (by decide)] at v2 ⊢
    rw [me_a (k := 61) hF hS rfl rfl, z3]; exact d2 v v1 v2
  · obtain ⟨v, v1, v2, v3⟩ := d3 r (by omega)
    exact ⟨v, v1, by rw [me_a (k := 61) hF hS rfl rfl]; exact v2, by rw [b 115 (by decide)]; exact v3⟩
  · rw [me_a (k := 63) hF hS rfl rfl, me_a (k := 64) hF hS rfl rfl, b 129 (by decide), b 130 (by decide)]; exact d4 y (by omega)
  · rw [me_a (k := 63) hF hS rfl rfl, me_a (k := 64) hF hS rfl rfl]; exact d5 j j1 (fun x hx => j2 x (by omega))
  · rw [me_a (k := 65) hF hS rfl rfl, me_a (k := 66) hF hS rfl rfl, me_a (k := 67) hF hS rfl rfl, b 126 (by decide), b 127 (by decide), b 128 (by decide)]; exact d6 a (by omega)
  · have eo : u = (g 0 0).toNat → ow_new g ow u = (g 0 0).toNat := fun c => by
      unfold ow_new
      rw [if_pos c]
    by_cases c : u = (g 0 0).toNat
    · refine ⟨?_, ?_, ?_, ?_, ?_, ?_⟩
      · rw [r68, b119, if_pos c, if_pos c]
      · rw [r69, if_pos c]
        unfold cq_v
        rw [b119, b120, if_pos c, if_pos c]
        rw [if_neg (c := s = 10) h10]
        exact hv
      · rw [r70, b121, if_pos c, if_pos c]
      · rw [r71, if_pos c]
        unfold cq_n
        rw [b124, if_pos c, if_neg (by decide), eo c, b125, if_pos rfl]
      · rw [r72, b122, if_pos c, if_pos c, if_pos rfl]
      · intro x
        rw [b122, if_pos c] at x
        exact absurd rfl x
    · obtain ⟨x1, x2, x3, x4, x5, x6⟩ := d7 u (by omega)
      have lt : (ow u : Int) < g 0 0 := by
        rcases (q6 u (by omega)).2.2.2.2 with y | y
        · omega
        · exact y.1
      refine ⟨?_, ?_, ?_, ?_, ?_, ?_⟩
      · rw [r68, b119, if_neg c, if_neg c]; exact x1
      · rw [r69, if_neg c, x2]
        unfold cq_v
        rw [b119, b120, if_neg c, if_neg c]
      · rw [r70, b121, if_neg c, if_neg c]; exact x3
      · rw [r71, if_neg c, x4]
        unfold cq_n
        rw [b124, if_neg c, on u (by omega), b125, if_neg (c := ow u = (g 0 0).toNat) (by omega)]
      · rw [r72, b122, if_neg c, if_neg c]; exact x5
      · rw [r73 u c, b122, if_neg c, b 123 (by decide)]; exact x6
  · rw [b117]; exact rl l (by omega)
  · rw [b119, b120, z2]
    by_cases c : u = (g 0 0).toNat
    · rw [if_pos c, if_pos c]; exact ⟨fun x => absurd x h10, h9⟩
    · rw [if_neg c, if_neg c]; exact d9 u (by omega)
/-- a group is opened -/
theorem CQ_open (hq : CQ f ow g h) (hS : ab_Sh sx_sk h) (hP : PI ow g m) (hf : FI f g) (hU : g 0 0 < 60) (hF : ab_Fr cu_W h h') (n0 : mi_f h' 7685 = mi_f h 7685 + 1) (n1 : mi_f h' 7690 = mi_f h 7690 + 1) (n2 : mi_f h' 7698 = mi_f h 7698) (rl : ∀ i, mi_a h' 75 i = mi_a h 75 i)
    (r68 : ∀ i, mi_a h' 68 i = if i = (mi_f h 7690).toNat then 10 else mi_a h 68 i) (r69 : ∀ i, mi_a h' 69 i = if i = (mi_f h 7690).toNat then f (g 0 2) else mi_a h 69 i) (r70 : ∀ i, mi_a h' 70 i = if i = (mi_f h 7690).toNat then p else mi_a h 70 i) (r71 : ∀ i, mi_a h' 71 i = if i = (mi_f h 7690).toNat then -1 else mi_a h 71 i) (r72 : ∀ i, mi_a h' 72 i = if i = (mi_f h 7690).toNat then 0 else mi_a h 72 i) (r73 : ∀ i, i ≠ (mi_f h 7690).toNat → mi_a h' 73 i = mi_a h 73 i) (h149 : ∀ i : Nat, (i : Int) ≤ g 0 5 → g 149 i < g 0 0) (r74 : ∀ i, mi_a h' 74 i = if i = (mi_f h 7690).toNat then 0 else mi_a h 74 i) : CQ f (ow_new g ow) (rf_o2 (rf_new (rf_o1 (rf_unit g 10 0 p) (g 0 0))) (g 0 0) (g 0 2)) h' ∧ FI f (rf_o2 (rf_new (rf_o1 (rf_unit g 10 0 p) (g 0 0))) (g 0 0) (g 0 2)) := by
  obtain ⟨⟨p1, p2, p3, p4, p5, p6⟩, q1, q2, q3, q4, q5, q6, q7, q8⟩ := hP
  obtain ⟨⟨c0, c1, c2, c3, c4⟩, d1, d2, d3, d4, d5, d6, d7, d8, d9, dw⟩ := hq
  obtain ⟨F1, F2, F3, F4⟩ := hf
  have fF := F2 (g 0 2) (Int.le_refl _)
  have sw : sW (rf_o2 (rf_new (rf_o1 (rf_unit g 10 0 p) (g 0 0))) (g 0 0) (g 0 2)) h' := sW_open (g := rf_unit g 10 0 p) (sW_unit dw p1.1 h149 (fun i => by rw [r74, c0])) p6.1 (Int.le_refl _)
  obtain ⟨g', hg⟩ : ∃ g', g' = rf_o2 (rf_new (rf_o1 (rf_unit g 10 0 p) (g 0 0))) (g 0 0) (g 0 2) := ⟨_, rfl⟩
  rw [← hg] at sw ⊢
  have z0 : g' 0 0 = g 0 0 + 1 := by rw [hg]; rfl
  have z1 : g' 0 1 = g 0 1 := by rw [hg]; rfl
  have z2 : g' 0 2 = g 0 2 + 1 := by rw [hg]; rfl
  have z3 : g' 0 3 = g 0 3 := by rw [hg]; rfl
  have z4 : g' 0 4 = g 0 4 := by rw [hg]; rfl
  have b119 : ∀ i, g' 119 i = if i = (g 0 0).toNat then 10 else g 119 i := fun i => by rw [hg]; rfl
  have b120 : ∀ i, g' 120 i = if i = (g 0 0).toNat then g 0 2 else g 120 i := fun i => by
    rw [hg]
    show (if i = (g 0 0).toNat then g 0 2 else if i = (g 0 0).toNat then 0 else g 120 i) = _
    by_cases c : i = (g 0 0).toNat
    · rw [if_pos c, if_pos c]
    · rw [if_neg c, if_neg c, if_neg c]
  have b121 : ∀ i, g' 121 i = if i = (g 0 0).toNat then p else g 121 i := fun i => by rw [hg]; rfl
  have b122 : ∀ i, g' 122 i = if i = (g 0 0).toNat then 0 else g 122 i := fun i => by rw [hg]; rfl
  have b124 : ∀ i, g' 124 i = if i = (g 0 0).toNat then -1 else g 124 i := fun i => by rw [hg]; rfl
  have b125 : ∀ i, g' 125 i = if i = (g 0 0).toNat then -1 else g 125 i := fun i => by rw [hg]; rfl
  have b129 : ∀ i, g' 129 i = if i = (g 0 2).toNat then -1 else g 129 i := fun i => by rw [hg]; rfl
  have b130 : ∀ i, g' 130 i = if i = (g 0 2).toNat then 0 else g 130 i := fun i => by rw [hg]; rfl
  have b : ∀ r, r ∈ [113, 114, 115, 117, 123, 126, 127, 128] → ∀ i, g' r i = g r i := fun r hr i => by
    simp only [List.mem_cons, List.not_mem_nil, or_false] at hr
    rw [hg]
    rcases hr with rfl | rfl | rfl | rfl | rfl | rfl | rfl | rfl <;> rfl
  clear hg
  have on : ∀ v : Nat, (v : Int) < g 0 0 → ow_new g ow v = ow v := fun v hv => by
    unfold ow_new
    rw [if_neg (by omega)]
  rw [c0] at r68 r69 r70 r71 r72 r73
  refine ⟨⟨⟨by omega, ?_, ?_, by omega, by omega⟩, fun r hr => ?_, fun v v1 v2 => ?_, fun r hr => ?_, fun y hy => ?_, fun j j1 j2 => ?_, fun a ha => ?_, fun u hu => ?_, fun l hl => ?_, fun u hu => ?_, sw⟩, ⟨fun r hr => ?_, fun x hx => ?_, fun x y x0 x1 y0 y1 e => ?_, fun x x0 x1 => ?_⟩⟩
  · rw [me_f (c := 7686) hF hS rfl rfl, z1]; exact c1
  · rw [me_f (c := 7680) hF hS rfl rfl, z3]; exact c2
  · rw [me_a (k := 62) hF hS rfl rfl, b 113 (by decide)]; exact d1 r (by omega)
  · rw [b 115 (by decide)] at v2 ⊢
    rw [me_a (k := 61) hF hS rfl rfl, z3]; exact d2 v v1 v2
  · obtain ⟨v, v1, v2, v3⟩ := d3 r (by omega)
    exact ⟨v, v1, by rw [me_a (k := 61) hF hS rfl rfl]; exact v2, by rw [b 115 (by decide)]; exact v3⟩
  · rw [me_a (k := 63) hF hS rfl rfl, me_a (k := 64) hF hS rfl rfl, b129, b130]
    by_cases c : y = (g 0 2).toNat
    · have e : (y : Int) = g 0 2 := by omega
      rw [if_pos c, if_pos c, e, fF]
      refine d5 _ (by omega) (fun x hx => ?_)
      have := F4 x (by omega) hx
      omega
    · rw [if_neg c, if_neg c]
      exact d4 y (by omega)
  · rw [me_a (k := 63) hF hS rfl rfl, me_a (k := 64) hF hS rfl rfl]; exact d5 j j1 (fun x hx => j2 x (by omega))
  · rw [me_a (k := 65) hF hS rfl rfl, me_a (k := 66) hF hS rfl rfl, me_a (k := 67) hF hS rfl rfl, b 126 (by decide), b 127 (by decide), b 128 (by decide)]; exact d6 a (by omega)
  · have eo : u = (g 0 0).toNat → ow_new g ow u = (g 0 0).toNat := fun c => by
      unfold ow_new
      rw [if_pos c]
    by_cases c : u = (g 0 0).toNat
    · refine ⟨?_, ?_, ?_, ?_, ?_, ?_⟩
      · rw [r68, b119, if_pos c, if_pos c]
      · rw [r69, if_pos c]
        unfold cq_v
        rw [b119, b120, if_pos c, if_pos c]
        rw [if_neg (by decide), if_pos rfl]
      · rw [r70, b121, if_pos c, if_pos c]
      · rw [r71, if_pos c]
        unfold cq_n
        rw [b124, if_pos c, if_neg (by decide), eo c, b125, if_pos rfl]
      · rw [r72, b122, if_pos c, if_pos c, if_pos rfl]
      · intro x
        rw [b122, if_pos c] at x
        exact absurd rfl x
    · obtain ⟨x1, x2, x3, x4, x5, x6⟩ := d7 u (by omega)
      have lt : (ow u : Int) < g 0 0 := by
        rcases (q6 u (by omega)).2.2.2.2 with y | y
        · omega
        · exact y.1
      refine ⟨?_, ?_, ?_, ?_, ?_, ?_⟩
      · rw [r68, b119, if_neg c, if_neg c]; exact x1
      · rw [r69, if_neg c, x2]
        unfold cq_v
        rw [b119, b120, if_neg c, if_neg c]
      · rw [r70, b121, if_neg c, if_neg c]; exact x3
      · rw [r71, if_neg c, x4]
        unfold cq_n
        rw [b124, if_neg c, on u (by omega), b125, if_neg (c := ow u = (g 0 0).toNat) (by omega)]
      · rw [r72, b122, if_neg c, if_neg c]; exact x5
      · rw [r73 u c, b122, if_neg c, b 123 (by decide)]; exact x6
  · rw [b 117 (by decide), rl]; exact d8 l (by omega)
  · rw [b119, b120, z2]
    by_cases c : u = (g 0 0).toNat
    · rw [if_pos c, if_pos c]; exact ⟨fun x => by omega, fun x => absurd x (by decide)⟩
    · rw [if_neg c, if_neg c]
      have := d9 u (by omega)
      exact ⟨fun x => by have := this.1 x; omega, this.2⟩
  · rw [b 114 (by decide), z2]
    have := F1 r (by omega)
    exact ⟨by omega, this.2⟩
  · rw [z3]; exact F2 x (by omega)
  · by_cases cx : x = g 0 2
    · by_cases cy : y = g 0 2
      · omega
      · have := F4 y y0 (by omega)
        rw [cx, fF] at e
        omega
    · have fx := F4 x x0 (by omega)
      by_cases cy : y = g 0 2
      · rw [cy, fF] at e
        omega
      · exact F3 x y x0 (by omega) y0 (by omega) e
  · rw [z2, z3]
    by_cases cx : x = g 0 2
    · rw [cx, fF]; omega
    · have := F4 x x0 (by omega)
      omega
def fi_rule (f : Int → Int) (g : wk_g) : Int → Int := fun x => if x = g 0 2 then g 0 3 else if g 0 2 < x then 10 + x - (g 0 3 + 1) else f x
/-- a rule is begun -/
theorem CQ_rule {v : Int} (hq : CQ f ow g h) (hps : PSr g) (hS : ab_Sh sx_sk h) (hP : PR ow g) (hf : FI f g) (v0 : 0 ≤ v) (v1 : v < 26) (hn : g 115 v.toNat < 0) (hR : g 0 3 < 10) (hF : ab_Fr [(7680, 7681), (7808, 7809), (7936, 7937)] h h') (n0 : mi_f h' 7680 = mi_f h 7680 + 1) (r61 : ∀ i, mi_a h' 61 i = if i = (mi_f h 7680).toNat then v + 65 else mi_a h 61 i) (r62 : ∀ i, mi_a h' 62 i = if i = (mi_f h 7680).toNat then p else mi_a h 62 i) : CQ (fi_rule f g) ow (rf_rule g v p) h' ∧ FI (fi_rule f g) (rf_rule g v p) ∧ fi_rule f g (g 0 2) = g 0 3 := by
  obtain ⟨⟨p1, p2, p3, p4, p5⟩, q6, q7, q8⟩ := hP
  obtain ⟨⟨c0, c1, c2, c3, c4⟩, d1, d2, d3, d4, d5, d6, d7, d8, d9, dw⟩ := hq
  obtain ⟨F1, F2, F3, F4⟩ := hf
  have sw : sW (rf_rule g v p) h' := sW_fr (sW_cg (sW_rule (v := v) (p := p) dw hps).1 ⟨rfl, rfl⟩ ⟨rfl, rfl, rfl, rfl⟩) hS hF rfl
  obtain ⟨g', hg⟩ : ∃ g', g' = rf_rule g v p := ⟨_, rfl⟩
  rw [← hg] at sw ⊢
  have z0 : g' 0 0 = g 0 0 := by rw [hg]; rfl
  have z1 : g' 0 1 = g 0 1 := by rw [hg]; rfl
  have z2 : g' 0 2 = g 0 2 + 1 := by rw [hg]; rfl
  have z3 : g' 0 3 = g 0 3 + 1 := by rw [hg]; rfl
  have z4 : g' 0 4 = g 0 4 := by rw [hg]; rfl
  have b113 : ∀ i, g' 113 i = if i = (g 0 3).toNat then p else g 113 i := fun i => by rw [hg]; rfl
  have b114 : ∀ i, g' 114 i = if i = (g 0 3).toNat then g 0 2 else g 114 i := fun i => by rw [hg]; rfl
  have b115 : ∀ i, g' 115 i = if i = v.toNat then g 0 3 else g 115 i := fun i => by rw [hg]; rfl
  have b129 : ∀ i, g' 129 i = if i = (g 0 2).toNat then -1 else g 129 i := fun i => by rw [hg]; rfl
  have b130 : ∀ i, g' 130 i = if i = (g 0 2).toNat then 0 else g 130 i := fun i => by rw [hg]; rfl
  have b : ∀ r, r ∈ [117, 119, 120, 121, 122, 123, 124, 125, 126, 127, 128] → ∀ i, g' r i = g r i := fun r hr i => by
    simp only [List.mem_cons, List.not_mem_nil, or_false] at hr
    rw [hg]
    rcases hr with rfl | rfl | rfl | rfl | rfl | rfl | rfl | rfl | rfl | rfl | rfl <;> rfl
  clear hg
  have fo : ∀ x, x < g 0 2 → fi_rule f g x = f x := fun x hx => by
    unfold fi_rule
    rw [if_neg (by omega), if_neg (by omega)]
  have fn : fi_rule f g (g 0 2) = g 0 3 := by
    unfold fi_rule
    rw [if_pos rfl]
  have fg : ∀ x, g 0 2 < x → fi_rule f g x = 10 + x - (g 0 3 + 1) := fun x hx => by
    unfold fi_rule
    rw [if_neg (by omega), if_pos hx]
  rw [c2] at r61 r62
  refine ⟨⟨⟨?_, ?_, by omega, ?_, ?_⟩, fun r hr => ?_, fun y y1 y2 => ?_, fun r hr => ?_, fun y hy => ?_, fun j j1 j2 => ?_, fun a ha => ?_, fun u hu => ?_, fun l hl => ?_, fun u hu => ?_, sw⟩, ⟨fun r hr => ?_, fun x hx => ?_, fun x y x0 x1 y0 y1 e => ?_, fun x x0 x1 => ?_⟩, fn⟩
  · rw [me_f (c := 7690) hF hS rfl rfl, z0]; exact c0
  · rw [me_f (c := 7686) hF hS rfl rfl, z1]; exact c1
  · rw [me_f (c := 7698) hF hS rfl rfl, z4]; exact c3
  · rw [me_f (c := 7685) hF hS rfl rfl, z2, z3]; omega
  · rw [r62, b113]
    by_cases c : r = (g 0 3).toNat
    · rw [if_pos c, if_pos c]
    · rw [if_neg c, if_neg c]; exact d1 r (by omega)
  · rw [b115] at y2 ⊢
    rw [r61, z3]
    by_cases c : y = v.toNat
    · rw [if_pos c, if_pos rfl]
      omega
    · rw [if_neg c] at y2 ⊢
      obtain ⟨x1, x2⟩ := d2 y y1 y2
      rw [if_neg (by omega)]
      exact ⟨by omega, x2⟩
  · rw [r61]
    by_cases c : r = (g 0 3).toNat
    · refine ⟨v.toNat, by omega, by rw [if_pos c]; omega, by rw [b115, if_pos rfl]; omega⟩
    · obtain ⟨y, y1, y2, y3⟩ := d3 r (by omega)
      refine ⟨y, y1, by rw [if_neg c]; exact y2, ?_⟩
      rw [b115]
      by_cases cy : y = v.toNat
      · rw [cy] at y3
        omega
      · rw [if_neg cy]; exact y3
  · rw [me_a (k := 63) hF hS rfl rfl, me_a (k := 64) hF hS rfl rfl, b129, b130]
    by_cases c : y = (g 0 2).toNat
    · have e : (y : Int) = g 0 2 := by omega
      rw [if_pos c, if_pos c, e, fn]
      refine d5 _ (by omega) (fun x hx => ?_)
      have := F4 x (by omega) hx
      omega
    · rw [if_neg c, if_neg c, fo y (by omega)]
      exact d4 y (by omega)
  · rw [me_a (k := 63) hF hS rfl rfl, me_a (k := 64) hF hS rfl rfl]
    exact d5 j j1 (fun x hx => by have := j2 x (by omega); rwa [fo x hx] at this)
  · rw [me_a (k := 65) hF hS rfl rfl, me_a (k := 66) hF hS rfl rfl, me_a (k := 67) hF hS rfl rfl, b 126 (by decide), b 127 (by decide), b 128 (by decide)]; exact d6 a (by omega)
  · rw [me_a (k := 68) hF hS rfl rfl, me_a (k := 69) hF hS rfl rfl, me_a (k := 70) hF hS rfl rfl, me_a (k := 71) hF hS rfl rfl, me_a (k := 72) hF hS rfl rfl, me_a (k := 73) hF hS rfl rfl]
    unfold cq_v cq_n
    rw [b 119 (by decide), b 120 (by decide), b 121 (by decide), b 122 (by decide), b 123 (by decide), b 124 (by decide), b 125 (by decide)]
    obtain ⟨x1, x2, x3, x4, x5, x6⟩ := d7 u (by omega)
    refine ⟨x1, ?_, x3, x4, x5, x6⟩
    rw [x2]
    unfold cq_v
    by_cases c : g 119 u = 10
    · rw [if_neg (c := g 119 u = 9) (by omega), if_neg (c := g 119 u = 9) (by omega), if_pos c, if_pos c, fo _ ((d9 u (by omega)).1 c).2]
    · rw [if_neg c, if_neg c]
  · rw [me_a (k := 75) hF hS rfl rfl, b 117 (by decide)]; exact d8 l (by omega)
  · rw [b 119 (by decide), b 120 (by decide), z2]
    have := d9 u (by omega)
    exact ⟨fun x => by have := this.1 x; omega, this.2⟩
  · rw [b114, z2]
    by_cases c : r = (g 0 3).toNat
    · rw [if_pos c, fn]
      exact ⟨by omega, by omega⟩
    · rw [if_neg c]
      have := F1 r (by omega)
      rw [fo _ this.1.2]
      exact ⟨by omega, this.2⟩
  · rw [z3]; exact fg x (by omega)
  · by_cases cx : x = g 0 2
    · by_cases cy : y = g 0 2
      · omega
      · have := F4 y y0 (by omega)
        rw [cx, fn, fo y (by omega)] at e
        omega
    · have fx := F4 x x0 (by omega)
      by_cases cy : y = g 0 2
      · rw [cy, fn, fo x (by omega)] at e
        omega
      · rw [fo x (by omega), fo y (by omega)] at e
        exact F3 x y x0 (by omega) y0 (by omega) e
  · rw [z2, z3]
    by_cases cx : x = g 0 2
    · rw [cx, fn]; omega
    · rw [fo x (by omega)]
      have := F4 x x0 (by omega)
      omega
end CQM
