/-! READING, purely: what the reference's rows become. Row 0: units, alternatives, forms, rules, literals, open; row 117: the literals' codes -/
section RFB
variable {d : Nat} {h : sm_H}
theorem me_beginx {zp : Int} (hS : ab_Sh sx_sk h) (op : mi_in zp) (ha : mi_f h 13964 < 80) (hk : mi_f h 14003 < 6) (hf0 : 0 ≤ mi_a h 146 (mi_f h 14003).toNat) (hf1 : mi_a h 146 (mi_f h 14003).toNat < 80) (hc : mi_a h 130 (mi_a h 146 (mi_f h 14003).toNat).toNat ≤ 6) (hb : mi_a h 130 (mi_a h 146 (mi_f h 14003).toNat).toNat ≠ 0 → 0 ≤ mi_a h 147 (mi_f h 14003).toNat ∧ mi_a h 147 (mi_f h 14003).toNat < 80) : me_E d 187 0 [some (.inr (.inr 109)), some (.inl zp), none, none] [] h (fun w h' => w = none ∧ ab_Sh sx_sk h' ∧ ab_Fr bg_W h h' ∧ bg_R h h' ∧ ∀ i, mi_a h' 127 i = if i = (mi_f h 13964).toNat then zp else mi_a h 127 i) := by
  have b130 := me_ab (k := 130) (i := (mi_a h 146 (mi_f h 14003).toNat).toNat) hS rfl (by decide) (by omega)
  have b3 := me_fb (c := 14003) hS rfl
  have b4 := me_fb (c := 13964) hS rfl
  refine mt_bgA hS op ?_ ?_
  · intro b1 b2 c
    have hb := hb c
    refine ⟨by omega, fun h1 g1 g2 g3 g4 g5 g6 => ?_⟩
    have e3 : mi_f h1 14003 = mi_f h 14003 := me_f (c := 14003) g6 hS rfl rfl
    have e130 : ∀ i, mi_a h1 130 i = mi_a h 130 i := fun i => me_a (k := 130) g6 hS rfl rfl
    refine mt_bgB g1 op ⟨by omega, by omega⟩ ⟨by omega, by omega⟩ ?_
    intro b5
    refine ⟨by rw [e130]; omega, fun h2 r1 r2 r3 r4 r5 r6 r7 => ⟨rfl, r1, (g6.wide (fun c hc => ab_swr_ok (by decide) hc)).trans (r7.wide (fun c hc => ab_swr_ok (by decide) hc)), ⟨(me_f (c := 13964) r7 g1 rfl rfl).trans g2, fun i => ?_, fun i => ?_, fun i => ?_, fun i => ?_, fun i => ?_, fun i => ?_, fun i => ?_, fun i => ?_⟩, fun i => ?_⟩⟩
    · rw [me_a (k := 126) r7 g1 rfl rfl, g3]
    · rw [me_a (k := 128) r7 g1 rfl rfl, g5]
      by_cases e : i = (mi_a h 147 (mi_f h 14003).toNat).toNat
      · rw [if_pos e, if_pos ⟨c, e⟩]
      · rw [if_neg e, if_neg (c := mi_a h 130 (mi_a h 146 (mi_f h 14003).toNat).toNat ≠ 0 ∧ i = (mi_a h 147 (mi_f h 14003).toNat).toNat) (fun z => e z.2)]
    · rw [me_a (k := 129) r7 g1 rfl rfl, me_a (k := 129) g6 hS rfl rfl, if_neg (fun z => c z.1)]
    · rw [r2, e130, e130]
      by_cases e : i = (mi_a h 146 (mi_f h 14003).toNat).toNat
      · rw [if_pos e, if_pos e, e]
      · rw [if_neg e, if_neg e]
    · rw [r3, e3, me_a (k := 147) g6 hS rfl rfl]
    · rw [r4, e3, me_a (k := 149) g6 hS rfl rfl]
    · rw [r5, e3, me_a (k := 150) g6 hS rfl rfl]
    · rw [r6, e3, me_a (k := 151) g6 hS rfl rfl]
    · rw [me_a (k := 127) r7 g1 rfl rfl, g4]
  · intro b1 b2 c
    refine ⟨by omega, fun h1 g1 g2 g3 g4 g5 g6 g7 => ?_⟩
    have e3 : mi_f h1 14003 = mi_f h 14003 := me_f (c := 14003) g7 hS rfl rfl
    have e130 : ∀ i, mi_a h1 130 i = mi_a h 130 i := fun i => me_a (k := 130) g7 hS rfl rfl
    refine mt_bgB g1 op ⟨by omega, by omega⟩ ⟨by omega, by omega⟩ ?_
    intro b5
    refine ⟨by rw [e130]; omega, fun h2 r1 r2 r3 r4 r5 r6 r7 => ⟨rfl, r1, (g7.wide (fun c hc => ab_swr_ok (by decide) hc)).trans (r7.wide (fun c hc => ab_swr_ok (by decide) hc)), ⟨(me_f (c := 13964) r7 g1 rfl rfl).trans g2, fun i => ?_, fun i => ?_, fun i => ?_, fun i => ?_, fun i => ?_, fun i => ?_, fun i => ?_, fun i => ?_⟩, fun i => ?_⟩⟩
    · rw [me_a (k := 126) r7 g1 rfl rfl, g3]
    · rw [me_a (k := 128) r7 g1 rfl rfl, g5, if_neg (c := mi_a h 130 (mi_a h 146 (mi_f h 14003).toNat).toNat ≠ 0 ∧ i = (mi_a h 147 (mi_f h 14003).toNat).toNat) (fun z => z.1 c)]
    · rw [me_a (k := 129) r7 g1 rfl rfl, g6]
      by_cases e : i = (mi_a h 146 (mi_f h 14003).toNat).toNat
      · rw [if_pos e, if_pos ⟨c, e⟩]
      · rw [if_neg e, if_neg (fun z => e z.2)]
    · rw [r2, e130, e130]
      by_cases e : i = (mi_a h 146 (mi_f h 14003).toNat).toNat
      · rw [if_pos e, if_pos e, e]
      · rw [if_neg e, if_neg e]
    · rw [r3, e3, me_a (k := 147) g7 hS rfl rfl]
    · rw [r4, e3, me_a (k := 149) g7 hS rfl rfl]
    · rw [r5, e3, me_a (k := 150) g7 hS rfl rfl]
    · rw [r6, e3, me_a (k := 151) g7 hS rfl rfl]
    · rw [me_a (k := 127) r7 g1 rfl rfl, g4]
end RFB
def rk_L : List Nat := [113, 114, 115, 119, 120, 121, 122, 123, 124, 125, 126, 127, 128, 129, 130, 146, 147, 148, 149, 150, 151]
def RQ (g : wk_g) (h : sm_H) : Prop := (g 0 0 = mi_f h 13963 ∧ g 0 1 = mi_f h 13964 ∧ g 0 2 = mi_f h 13965 ∧ g 0 3 = mi_f h 13961 ∧ g 0 4 = mi_f h 13962 ∧ g 0 5 = mi_f h 14003) ∧ (∀ r, r ∈ rk_L → ∀ i, g r i = mi_a h r i) ∧ ∀ i, g 117 i = lc_r h i
/-- the rows as they lie in the cells -/
def rk_g (h : sm_H) : wk_g := fun r i => if r = 0 then (if i = 0 then mi_f h 13963 else if i = 1 then mi_f h 13964 else if i = 2 then mi_f h 13965 else if i = 3 then mi_f h 13961 else if i = 4 then mi_f h 13962 else if i = 5 then mi_f h 14003 else 0) else if r = 117 then lc_r h i else mi_a h r i
theorem RQ_g (h : sm_H) : RQ (rk_g h) h := by
  refine ⟨⟨rfl, rfl, rfl, rfl, rfl, rfl⟩, fun r hr i => ?_, fun i => rfl⟩
  unfold rk_g
  rw [if_neg (fun c => by rw [c] at hr; revert hr; decide), if_neg (fun c => by rw [c] at hr; revert hr; decide)]
def rf_new (g : wk_g) : wk_g := fun r i => if r = 0 then (if i = 2 then g 0 2 + 1 else g 0 i) else if r = 129 then (if i = (g 0 2).toNat then -1 else g 129 i) else if r = 130 then (if i = (g 0 2).toNat then 0 else g 130 i) else g r i
def rf_beg (g : wk_g) (p : Int) : wk_g := fun r i =>
  if r = 0 then (if i = 1 then g 0 1 + 1 else g 0 i)
  else if r = 126 then (if i = (g 0 1).toNat then -1 else g 126 i)
  else if r = 127 then (if i = (g 0 1).toNat then p else g 127 i)
  else if r = 128 then (if g 130 (g 146 (g 0 5).toNat).toNat ≠ 0 ∧ i = (g 147 (g 0 5).toNat).toNat then g 0 1 else if i = (g 0 1).toNat then -1 else g 128 i)
  else if r = 129 then (if g 130 (g 146 (g 0 5).toNat).toNat = 0 ∧ i = (g 146 (g 0 5).toNat).toNat then g 0 1 else g 129 i)
  else if r = 130 then (if i = (g 146 (g 0 5).toNat).toNat then g 130 i + 1 else g 130 i)
  else if r = 147 then (if i = (g 0 5).toNat then g 0 1 else g 147 i)
  else if r = 149 then (if i = (g 0 5).toNat then -1 else g 149 i)
  else if r = 150 then (if i = (g 0 5).toNat then -1 else g 150 i)
  else if r = 151 then (if i = (g 0 5).toNat then 0 else g 151 i)
  else g r i
def rf_put (g : wk_g) (u : Int) : wk_g := fun r i =>
  if r = 124 then (if g 151 (g 0 5).toNat ≠ 0 ∧ i = (g 149 (g 0 5).toNat).toNat then u else g 124 i)
  else if r = 125 then (if g 151 (g 0 5).toNat = 0 ∧ 0 ≤ g 149 (g 0 5).toNat ∧ i = (g 149 (g 0 5).toNat).toNat then u else g 125 i)
  else if r = 126 then (if g 151 (g 0 5).toNat = 0 ∧ g 149 (g 0 5).toNat < 0 ∧ i = (g 147 (g 0 5).toNat).toNat then u else g 126 i)
  else if r = 149 then (if g 151 (g 0 5).toNat = 0 ∧ i = (g 0 5).toNat then u else g 149 i)
  else if r = 150 then (if i = (g 0 5).toNat then u else g 150 i)
  else if r = 151 then (if i = (g 0 5).toNat then 0 else g 151 i)
  else g r i
/-- a unit is made: sort s, what w, place p -/
def rf_unit (g : wk_g) (s w p : Int) : wk_g := fun r i =>
  if r = 0 then (if i = 0 then g 0 0 + 1 else g 0 i)
  else if r = 119 then (if i = (g 0 0).toNat then s else g 119 i)
  else if r = 120 then (if i = (g 0 0).toNat then w else g 120 i)
  else if r = 121 then (if i = (g 0 0).toNat then p else g 121 i)
  else if r = 122 then (if i = (g 0 0).toNat then 0 else g 122 i)
  else if r = 124 then (if i = (g 0 0).toNat then -1 else g 124 i)
  else if r = 125 then (if i = (g 0 0).toNat then -1 else g 125 i)
  else g r i
/-- a literal more -/
def rf_lit (g : wk_g) (c : Int) : wk_g := fun r i => if r = 0 then (if i = 4 then g 0 4 + 1 else g 0 i) else if r = 117 then (if i = (g 0 4).toNat then c else g 117 i) else g r i
/-- a level is opened over the unit u: first the level, then (the form f is made between) its form -/
def rf_o1 (g : wk_g) (u : Int) : wk_g := fun r i => if r = 0 then (if i = 5 then g 0 5 + 1 else g 0 i) else if r = 148 then (if i = (g 0 5 + 1).toNat then u else g 148 i) else g r i
def rf_o2 (g : wk_g) (u f : Int) : wk_g := fun r i => if r = 120 then (if i = u.toNat then f else g 120 i) else if r = 146 then (if i = (g 0 5).toNat then f else g 146 i) else g r i
def rf_lvl (g : wk_g) (k : Int) : wk_g := fun r i => if r = 0 then (if i = 5 then k else g 0 i) else g r i
def rf_wrap (g : wk_g) (u w p : Int) : wk_g := fun r i => if r = 122 then (if i = u.toNat then w else g 122 i) else if r = 123 then (if i = u.toNat then p else g 123 i) else g r i
def rf_swap (g : wk_g) : wk_g := fun r i => if r = 151 then (if i = (g 0 5).toNat then 1 else g 151 i) else g r i
def rf_word (g : wk_g) (u w : Int) : wk_g := fun r i => if r = 120 then (if i = u.toNat then w else g 120 i) else g r i
section RQL
variable {g : wk_g} {h h' : sm_H}
/-- rows that are not written stay -/
theorem RQ_st (hq : RQ g h) (hS : ab_Sh sx_sk h) {wr : List (Nat × Nat)} (hF : ab_Fr wr h h') {r : Nat} (hr : r ∈ rk_L) (hA : (mx_isA sx_sk r || mx_isB sx_sk r) = true) (hn : ab_in wr (r * 128) = false) (i : Nat) : g r i = mi_a h' r i := by
  rw [me_a (k := r) hF hS hA hn]
  exact hq.2.1 r hr i
theorem lc_fr (hS : ab_Sh sx_sk h) {wr : List (Nat × Nat)} (hF : ab_Fr wr h h') (n1 : ab_in wr 14976 = false) (n2 : ab_in wr 15104 = false) (i : Nat) : lc_r h' i = lc_r h i := by
  unfold lc_r
  rw [me_a (k := 117) hF hS rfl n1, me_b (k := 118) hF hS rfl n2]
theorem RQ_put {u : Int} (hq : RQ g h) (hS : ab_Sh sx_sk h) (hF : ab_Fr pu_W h h') (hp : pu_R u h h') : RQ (rf_put g u) h' := by
  obtain ⟨⟨q0, q1, q2, q3, q4, q5⟩, qa, ql⟩ := id hq
  obtain ⟨p3, p4, p5, p6, p7, p8⟩ := hp
  have e := fun r (hr : r ∈ rk_L) => qa r hr
  refine ⟨⟨?_, ?_, ?_, ?_, ?_, ?_⟩, fun r hr i => ?_, fun i => ?_⟩
  · exact q0.trans (me_f (c := 13963) hF hS rfl rfl).symm
  · exact q1.trans (me_f (c := 13964) hF hS rfl rfl).symm
  · exact q2.trans (me_f (c := 13965) hF hS rfl rfl).symm
  · exact q3.trans (me_f (c := 13961) hF hS rfl rfl).symm
  · exact q4.trans (me_f (c := 13962) hF hS rfl rfl).symm
  · exact q5.trans (me_f (c := 14003) hF hS rfl rfl).symm
  · have k := hr
    simp only [rk_L, List.mem_cons, List.not_mem_nil, or_false] at k
    rcases k with rfl | rfl | rfl | rfl | rfl | rfl | rfl | rfl | rfl | rfl | rfl | rfl | rfl | rfl | rfl | rfl | rfl | rfl | rfl | rfl | rfl
    all_goals
      first
        | exact RQ_st hq hS hF hr rfl rfl i
        | (show (if g 151 (g 0 5).toNat ≠ 0 ∧ i = (g 149 (g 0 5).toNat).toNat then u else g 124 i) = mi_a h' 124 i
           rw [p3, q5, e 151 (by decide), e 149 (by decide), e 124 (by decide)])
        | (show (if g 151 (g 0 5).toNat = 0 ∧ 0 ≤ g 149 (g 0 5).toNat ∧ i = (g 149 (g 0 5).toNat).toNat then u else g 125 i) = mi_a h' 125 i
           rw [p4, q5, e 151 (by decide), e 149 (by decide), e 125 (by decide)])
        | (show (if g 151 (g 0 5).toNat = 0 ∧ g 149 (g 0 5).toNat < 0 ∧ i = (g 147 (g 0 5).toNat).toNat then u else g 126 i) = mi_a h' 126 i
           rw [p5, q5, e 151 (by decide), e 149 (by decide), e 147 (by decide), e 126 (by decide)])
        | (show (if g 151 (g 0 5).toNat = 0 ∧ i = (g 0 5).toNat then u else g 149 i) = mi_a h' 149 i
           rw [p6, q5, e 151 (by decide), e 149 (by decide)])
        | (show (if i = (g 0 5).toNat then u else g 150 i) = mi_a h' 150 i
           rw [p7, q5, e 150 (by decide)])
        | (show (if i = (g 0 5).toNat then 0 else g 151 i) = mi_a h' 151 i
           rw [p8, q5, e 151 (by decide)])
  · show g 117 i = _
    rw [ql, lc_fr hS hF rfl rfl]
theorem RQ_beg {p : Int} (hq : RQ g h) (hS : ab_Sh sx_sk h) (hF : ab_Fr bg_W h h') (hp : bg_R h h') (h127 : ∀ i, mi_a h' 127 i = if i = (mi_f h 13964).toNat then p else mi_a h 127 i) : RQ (rf_beg g p) h' := by
  obtain ⟨⟨q0, q1, q2, q3, q4, q5⟩, qa, ql⟩ := id hq
  obtain ⟨t3, t4, t5, t6, t7, t8, t9, t10, t11⟩ := hp
  have e := fun r (hr : r ∈ rk_L) => qa r hr
  refine ⟨⟨?_, ?_, ?_, ?_, ?_, ?_⟩, fun r hr i => ?_, fun i => ?_⟩
  · exact q0.trans (me_f (c := 13963) hF hS rfl rfl).symm
  · show g 0 1 + 1 = _
    rw [t3, q1]
  · exact q2.trans (me_f (c := 13965) hF hS rfl rfl).symm
  · exact q3.trans (me_f (c := 13961) hF hS rfl rfl).symm
  · exact q4.trans (me_f (c := 13962) hF hS rfl rfl).symm
  · exact q5.trans (me_f (c := 14003) hF hS rfl rfl).symm
  · have k := hr
    simp only [rk_L, List.mem_cons, List.not_mem_nil, or_false] at k
    rcases k with rfl | rfl | rfl | rfl | rfl | rfl | rfl | rfl | rfl | rfl | rfl | rfl | rfl | rfl | rfl | rfl | rfl | rfl | rfl | rfl | rfl
    all_goals
      first
        | exact RQ_st hq hS hF hr rfl rfl i
        | (show (if i = (g 0 1).toNat then -1 else g 126 i) = mi_a h' 126 i
           rw [t4, q1, e 126 (by decide)])
        | (show (if i = (g 0 1).toNat then p else g 127 i) = mi_a h' 127 i
           rw [h127, q1, e 127 (by decide)])
        | (show (if g 130 (g 146 (g 0 5).toNat).toNat ≠ 0 ∧ i = (g 147 (g 0 5).toNat).toNat then g 0 1 else if i = (g 0 1).toNat then -1 else g 128 i) = mi_a h' 128 i
           rw [t5, q5, q1, e 146 (by decide), e 130 (by decide), e 147 (by decide), e 128 (by decide)])
        | (show (if g 130 (g 146 (g 0 5).toNat).toNat = 0 ∧ i = (g 146 (g 0 5).toNat).toNat then g 0 1 else g 129 i) = mi_a h' 129 i
           rw [t6, q5, q1, e 146 (by decide), e 130 (by decide), e 129 (by decide)])
        | (show (if i = (g 146 (g 0 5).toNat).toNat then g 130 i + 1 else g 130 i) = mi_a h' 130 i
           rw [t7, q5, e 146 (by decide), e 130 (by decide)])
        | (show (if i = (g 0 5).toNat then g 0 1 else g 147 i) = mi_a h' 147 i
           rw [t8, q5, q1, e 147 (by decide)])
        | (show (if i = (g 0 5).toNat then -1 else g 149 i) = mi_a h' 149 i
           rw [t9, q5, e 149 (by decide)])
        | (show (if i = (g 0 5).toNat then -1 else g 150 i) = mi_a h' 150 i
           rw [t10, q5, e 150 (by decide)])
        | (show (if i = (g 0 5).toNat then 0 else g 151 i) = mi_a h' 151 i
           rw [t11, q5, e 151 (by decide)])
  · show g 117 i = _
    rw [ql, lc_fr hS hF rfl rfl]
theorem RQ_new (hq : RQ g h) (hS : ab_Sh sx_sk h) (hF : ab_Fr [(13965, 13966), (16512, 16513), (16640, 16641)] h h') (p1 : mi_f h' 13965 = mi_f h 13965 + 1) (p2 : ∀ i, mi_a h' 129 i = if i = (mi_f h 13965).toNat then -1 else mi_a h 129 i) (p3 : ∀ i, mi_a h' 130 i = if i = (mi_f h 13965).toNat then 0 else mi_a h 130 i) : RQ (rf_new g) h' := by
  obtain ⟨⟨q0, q1, q2, q3, q4, q5⟩, qa, ql⟩ := id hq
  have e := fun r (hr : r ∈ rk_L) => qa r hr
  refine ⟨⟨?_, ?_, ?_, ?_, ?_, ?_⟩, fun r hr i => ?_, fun i => ?_⟩
  · exact q0.trans (me_f (c := 13963) hF hS rfl rfl).symm
  · exact q1.trans (me_f (c := 13964) hF hS rfl rfl).symm
  · show g 0 2 + 1 = _
    rw [p1, q2]
  · exact q3.trans (me_f (c := 13961) hF hS rfl rfl).symm
  · exact q4.trans (me_f (c := 13962) hF hS rfl rfl).symm
  · exact q5.trans (me_f (c := 14003) hF hS rfl rfl).symm
  · have k := hr
    simp only [rk_L, List.mem_cons, List.not_mem_nil, or_false] at k
    rcases k with rfl | rfl | rfl | rfl | rfl | rfl | rfl | rfl | rfl | rfl | rfl | rfl | rfl | rfl | rfl | rfl | rfl | rfl | rfl | rfl | rfl
    all_goals
      first
        | exact RQ_st hq hS hF hr rfl rfl i
        | (show (if i = (g 0 2).toNat then -1 else g 129 i) = mi_a h' 129 i
           rw [p2, q2, e 129 (by decide)])
        | (show (if i = (g 0 2).toNat then 0 else g 130 i) = mi_a h' 130 i
           rw [p3, q2, e 130 (by decide)])
  · show g 117 i = _
    rw [ql, lc_fr hS hF rfl rfl]
theorem RQ_unit {s w p : Int} (hq : RQ g h) (hS : ab_Sh sx_sk h) (hF : ab_Fr [(13963, 13964), (15232, 15233), (15360, 15361), (15488, 15489), (15616, 15617), (15872, 15873), (16000, 16001)] h h') (f0 : mi_f h' 13963 = mi_f h 13963 + 1) (h119 : ∀ i, mi_a h' 119 i = if i = (mi_f h 13963).toNat then s else mi_a h 119 i) (h120 : ∀ i, mi_a h' 120 i = if i = (mi_f h 13963).toNat then w else mi_a h 120 i) (h121 : ∀ i, mi_a h' 121 i = if i = (mi_f h 13963).toNat then p else mi_a h 121 i) (h122 : ∀ i, mi_a h' 122 i = if i = (mi_f h 13963).toNat then 0 else mi_a h 122 i) (h124 : ∀ i, mi_a h' 124 i = if i = (mi_f h 13963).toNat then -1 else mi_a h 124 i) (h125 : ∀ i, mi_a h' 125 i = if i = (mi_f h 13963).toNat then -1 else mi_a h 125 i) : RQ (rf_unit g s w p) h' := by
  obtain ⟨⟨q0, q1, q2, q3, q4, q5⟩, qa, ql⟩ := id hq
  have e := fun r (hr : r ∈ rk_L) => qa r hr
  refine ⟨⟨?_, ?_, ?_, ?_, ?_, ?_⟩, fun r hr i => ?_, fun i => ?_⟩
  · show g 0 0 + 1 = _
    rw [f0, q0]
  · exact q1.trans (me_f (c := 13964) hF hS rfl rfl).symm
  · exact q2.trans (me_f (c := 13965) hF hS rfl rfl).symm
  · exact q3.trans (me_f (c := 13961) hF hS rfl rfl).symm
  · exact q4.trans (me_f (c := 13962) hF hS rfl rfl).symm
  · exact q5.trans (me_f (c := 14003) hF hS rfl rfl).symm
  · have k := hr
    simp only [rk_L, List.mem_cons, List.not_mem_nil, or_false] at k
    rcases k with rfl | rfl | rfl | rfl | rfl | rfl | rfl | rfl | rfl | rfl | rfl | rfl | rfl | rfl | rfl | rfl | rfl | rfl | rfl | rfl | rfl
    all_goals
      first
        | exact RQ_st hq hS hF hr rfl rfl i
        | (show (if i = (g 0 0).toNat then s else g 119 i) = mi_a h' 119 i
           rw [h119, q0, e 119 (by decide)])
        | (show (if i = (g 0 0).toNat then w else g 120 i) = mi_a h' 120 i
           rw [h120, q0, e 120 (by decide)])
        | (show (if i = (g 0 0).toNat then p else g 121 i) = mi_a h' 121 i
           rw [h121, q0, e 121 (by decide)])
        | (show (if i = (g 0 0).toNat then 0 else g 122 i) = mi_a h' 122 i
           rw [h122, q0, e 122 (by decide)])
        | (show (if i = (g 0 0).toNat then -1 else g 124 i) = mi_a h' 124 i
           rw [h124, q0, e 124 (by decide)])
        | (show (if i = (g 0 0).toNat then -1 else g 125 i) = mi_a h' 125 i
           rw [h125, q0, e 125 (by decide)])
  · show g 117 i = _
    rw [ql, lc_fr hS hF rfl rfl]
theorem RQ_o1 {u : Int} (hq : RQ g h) (hS : ab_Sh sx_sk h) (hF : ab_Fr [(14003, 14004), (18944, 18945)] h h') (f5 : mi_f h' 14003 = mi_f h 14003 + 1) (h148 : ∀ i, mi_a h' 148 i = if i = (mi_f h 14003 + 1).toNat then u else mi_a h 148 i) : RQ (rf_o1 g u) h' := by
  obtain ⟨⟨q0, q1, q2, q3, q4, q5⟩, qa, ql⟩ := id hq
  have e := fun r (hr : r ∈ rk_L) => qa r hr
  refine ⟨⟨?_, ?_, ?_, ?_, ?_, ?_⟩, fun r hr i => ?_, fun i => ?_⟩
  · exact q0.trans (me_f (c := 13963) hF hS rfl rfl).symm
  · exact q1.trans (me_f (c := 13964) hF hS rfl rfl).symm
  · exact q2.trans (me_f (c := 13965) hF hS rfl rfl).symm
  · exact q3.trans (me_f (c := 13961) hF hS rfl rfl).symm
  · exact q4.trans (me_f (c := 13962) hF hS rfl rfl).symm
  · show g 0 5 + 1 = _
    rw [f5, q5]
  · have k := hr
    simp only [rk_L, List.mem_cons, List.not_mem_nil, or_false] at k
    rcases k with rfl | rfl | rfl | rfl | rfl | rfl | rfl | rfl | rfl | rfl | rfl | rfl | rfl | rfl | rfl | rfl | rfl | rfl | rfl | rfl | rfl
    all_goals
      first
        | exact RQ_st hq hS hF hr rfl rfl i
        | (show (if i = (g 0 5 + 1).toNat then u else g 148 i) = mi_a h' 148 i
           rw [h148, q5, e 148 (by decide)])
  · show g 117 i = _
    rw [ql, lc_fr hS hF rfl rfl]
theorem RQ_o2 {u f : Int} (hq : RQ g h) (hS : ab_Sh sx_sk h) (hF : ab_Fr [(15360, 15361), (18688, 18689)] h h') (h120 : ∀ i, mi_a h' 120 i = if i = u.toNat then f else mi_a h 120 i) (h146 : ∀ i, mi_a h' 146 i = if i = (mi_f h 14003).toNat then f else mi_a h 146 i) : RQ (rf_o2 g u f) h' := by
  obtain ⟨⟨q0, q1, q2, q3, q4, q5⟩, qa, ql⟩ := id hq
  have e := fun r (hr : r ∈ rk_L) => qa r hr
  refine ⟨⟨?_, ?_, ?_, ?_, ?_, ?_⟩, fun r hr i => ?_, fun i => ?_⟩
  · exact q0.trans (me_f (c := 13963) hF hS rfl rfl).symm
  · exact q1.trans (me_f (c := 13964) hF hS rfl rfl).symm
  · exact q2.trans (me_f (c := 13965) hF hS rfl rfl).symm
  · exact q3.trans (me_f (c := 13961) hF hS rfl rfl).symm
  · exact q4.trans (me_f (c := 13962) hF hS rfl rfl).symm
  · exact q5.trans (me_f (c := 14003) hF hS rfl rfl).symm
  · have k := hr
    simp only [rk_L, List.mem_cons, List.not_mem_nil, or_false] at k
    rcases k with rfl | rfl | rfl | rfl | rfl | rfl | rfl | rfl | rfl | rfl | rfl | rfl | rfl | rfl | rfl | rfl | rfl | rfl | rfl | rfl | rfl
    all_goals
      first
        | exact RQ_st hq hS hF hr rfl rfl i
        | (show (if i = u.toNat then f else g 120 i) = mi_a h' 120 i
           rw [h120, e 120 (by decide)])
        | (show (if i = (g 0 5).toNat then f else g 146 i) = mi_a h' 146 i
           rw [h146, q5, e 146 (by decide)])
  · show g 117 i = _
    rw [ql, lc_fr hS hF rfl rfl]
theorem RQ_word {u w : Int} (hq : RQ g h) (hS : ab_Sh sx_sk h) (hF : ab_Fr [(15360, 15361)] h h') (h120 : ∀ i, mi_a h' 120 i = if i = u.toNat then w else mi_a h 120 i) : RQ (rf_word g u w) h' := by
  obtain ⟨⟨q0, q1, q2, q3, q4, q5⟩, qa, ql⟩ := id hq
  have e := fun r (hr : r ∈ rk_L) => qa r hr
  refine ⟨⟨?_, ?_, ?_, ?_, ?_, ?_⟩, fun r hr i => ?_, fun i => ?_⟩
  · exact q0.trans (me_f (c := 13963) hF hS rfl rfl).symm
  · exact q1.trans (me_f (c := 13964) hF hS rfl rfl).symm
  · exact q2.trans (me_f (c := 13965) hF hS rfl rfl).symm
  · exact q3.trans (me_f (c := 13961) hF hS rfl rfl).symm
  · exact q4.trans (me_f (c := 13962) hF hS rfl rfl).symm
  · exact q5.trans (me_f (c := 14003) hF hS rfl rfl).symm
  · have k := hr
    simp only [rk_L, List.mem_cons, List.not_mem_nil, or_false] at k
    rcases k with rfl | rfl | rfl | rfl | rfl | rfl | rfl | rfl | rfl | rfl | rfl | rfl | rfl | rfl | rfl | rfl | rfl | rfl | rfl | rfl | rfl
    all_goals
      first
        | exact RQ_st hq hS hF hr rfl rfl i
        | (show (if i = u.toNat then w else g 120 i) = mi_a h' 120 i
           rw [h120, e 120 (by decide)])
  · show g 117 i = _
    rw [ql, lc_fr hS hF rfl rfl]
theorem RQ_wrap {u w p : Int} (hq : RQ g h) (hS : ab_Sh sx_sk h) (hF : ab_Fr [(15616, 15617), (15744, 15745)] h h') (h122 : ∀ i, mi_a h' 122 i = if i = u.toNat then w else mi_a h 122 i) (h123 : ∀ i, mi_a h' 123 i = if i = u.toNat then p else mi_a h 123 i) : RQ (rf_wrap g u w p) h' := by
  obtain ⟨⟨q0, q1, q2, q3, q4, q5⟩, qa, ql⟩ := id hq
  have e := fun r (hr : r ∈ rk_L) => qa r hr
  refine ⟨⟨?_, ?_, ?_, ?_, ?_, ?_⟩, fun r hr i => ?_, fun i => ?_⟩
  · exact q0.trans (me_f (c := 13963) hF hS rfl rfl).symm
  · exact q1.trans (me_f (c := 13964) hF hS rfl rfl).symm
  · exact q2.trans (me_f (c := 13965) hF hS rfl rfl).symm
  · exact q3.trans (me_f (c := 13961) hF hS rfl rfl).symm
  · exact q4.trans (me_f (c := 13962) hF hS rfl rfl).symm
  · exact q5.trans (me_f (c := 14003) hF hS rfl rfl).symm
  · have k := hr
    simp only [rk_L, List.mem_cons, List.not_mem_nil, or_false] at k
    rcases k with rfl | rfl | rfl | rfl | rfl | rfl | rfl | rfl | rfl | rfl | rfl | rfl | rfl | rfl | rfl | rfl | rfl | rfl | rfl | rfl | rfl
    all_goals
      first
        | exact RQ_st hq hS hF hr rfl rfl i
        | (show (if i = u.toNat then w else g 122 i) = mi_a h' 122 i
           rw [h122, e 122 (by decide)])
        | (show (if i = u.toNat then p else g 123 i) = mi_a h' 123 i
           rw [h123, e 123 (by decide)])
  · show g 117 i = _
    rw [ql, lc_fr hS hF rfl rfl]
theorem RQ_swap (hq : RQ g h) (hS : ab_Sh sx_sk h) (hF : ab_Fr [(19328, 19329)] h h') (h151 : ∀ i, mi_a h' 151 i = if i = (mi_f h 14003).toNat then 1 else mi_a h 151 i) : RQ (rf_swap g) h' := by
  obtain ⟨⟨q0, q1, q2, q3, q4, q5⟩, qa, ql⟩ := id hq
  have e := fun r (hr : r ∈ rk_L) => qa r hr
  refine ⟨⟨?_, ?_, ?_, ?_, ?_, ?_⟩, fun r hr i => ?_, fun i => ?_⟩
  · exact q0.trans (me_f (c := 13963) hF hS rfl rfl).symm
  · exact q1.trans (me_f (c := 13964) hF hS rfl rfl).symm
  · exact q2.trans (me_f (c := 13965) hF hS rfl rfl).symm
  · exact q3.trans (me_f (c := 13961) hF hS rfl rfl).symm
  · exact q4.trans (me_f (c := 13962) hF hS rfl rfl).symm
  · exact q5.trans (me_f (c := 14003) hF hS rfl rfl).symm
  · have k := hr
    simp only [rk_L, List.mem_cons, List.not_mem_nil, or_false] at k
    rcases k with rfl | rfl | rfl | rfl | rfl | rfl | rfl | rfl | rfl | rfl | rfl | rfl | rfl | rfl | rfl | rfl | rfl | rfl | rfl | rfl | rfl
    all_goals
      first
        | exact RQ_st hq hS hF hr rfl rfl i
        | (show (if i = (g 0 5).toNat then 1 else g 151 i) = mi_a h' 151 i
           rw [h151, q5, e 151 (by decide)])
  · show g 117 i = _
    rw [ql, lc_fr hS hF rfl rfl]
theorem RQ_lvl {k : Int} (hq : RQ g h) (hS : ab_Sh sx_sk h) (hF : ab_Fr [(14003, 14004)] h h') (f5 : mi_f h' 14003 = k) : RQ (rf_lvl g k) h' := by
  obtain ⟨⟨q0, q1, q2, q3, q4, q5⟩, qa, ql⟩ := id hq
  have e := fun r (hr : r ∈ rk_L) => qa r hr
  refine ⟨⟨?_, ?_, ?_, ?_, ?_, ?_⟩, fun r hr i => ?_, fun i => ?_⟩
  · exact q0.trans (me_f (c := 13963) hF hS rfl rfl).symm
  · exact q1.trans (me_f (c := 13964) hF hS rfl rfl).symm
  · exact q2.trans (me_f (c := 13965) hF hS rfl rfl).symm
  · exact q3.trans (me_f (c := 13961) hF hS rfl rfl).symm
  · exact q4.trans (me_f (c := 13962) hF hS rfl rfl).symm
  · show k = _
    rw [f5]
  · have k := hr
    simp only [rk_L, List.mem_cons, List.not_mem_nil, or_false] at k
    rcases k with rfl | rfl | rfl | rfl | rfl | rfl | rfl | rfl | rfl | rfl | rfl | rfl | rfl | rfl | rfl | rfl | rfl | rfl | rfl | rfl | rfl
    all_goals
      first
        | exact RQ_st hq hS hF hr rfl rfl i
  · show g 117 i = _
    rw [ql, lc_fr hS hF rfl rfl]
theorem RQ_lit {c : Int} (hq : RQ g h) (hS : ab_Sh sx_sk h) (hF : ab_Fr lt_W h h') (f4 : mi_f h' 13962 = mi_f h 13962 + 1) (hl : ∀ i, lc_r h' i = if i = (mi_f h 13962).toNat then c else lc_r h i) : RQ (rf_lit g c) h' := by
  obtain ⟨⟨q0, q1, q2, q3, q4, q5⟩, qa, ql⟩ := id hq
  have e := fun r (hr : r ∈ rk_L) => qa r hr
  refine ⟨⟨?_, ?_, ?_, ?_, ?_, ?_⟩, fun r hr i => ?_, fun i => ?_⟩
  · exact q0.trans (me_f (c := 13963) hF hS rfl rfl).symm
  · exact q1.trans (me_f (c := 13964) hF hS rfl rfl).symm
  · exact q2.trans (me_f (c := 13965) hF hS rfl rfl).symm
  · exact q3.trans (me_f (c := 13961) hF hS rfl rfl).symm
  · show g 0 4 + 1 = _
    rw [f4, q4]
  · exact q5.trans (me_f (c := 14003) hF hS rfl rfl).symm
  · have k := hr
    simp only [rk_L, List.mem_cons, List.not_mem_nil, or_false] at k
    rcases k with rfl | rfl | rfl | rfl | rfl | rfl | rfl | rfl | rfl | rfl | rfl | rfl | rfl | rfl | rfl | rfl | rfl | rfl | rfl | rfl | rfl
    all_goals
      first
        | exact RQ_st hq hS hF hr rfl rfl i
  · show (if i = (g 0 4).toNat then c else g 117 i) = _
    rw [hl, q4, ql]
/-- nothing that is looked at was written -/
theorem RQ_same (hq : RQ g h) (hS : ab_Sh sx_sk h) {wr : List (Nat × Nat)} (hF : ab_Fr wr h h') (hw : (ab_in wr 13963 || ab_in wr 13964 || ab_in wr 13965 || ab_in wr 13961 || ab_in wr 13962 || ab_in wr 14003 || ab_in wr 14976 || ab_in wr 15104 || rk_L.any (fun r => ab_in wr (r * 128))) = false) : RQ g h' := by
  simp only [Bool.or_eq_false_iff] at hw
  obtain ⟨⟨⟨⟨⟨⟨⟨⟨w0, w1⟩, w2⟩, w3⟩, w4⟩, w5⟩, w6⟩, w7⟩, w8⟩ := hw
  obtain ⟨⟨q0, q1, q2, q3, q4, q5⟩, qa, ql⟩ := id hq
  refine ⟨⟨?_, ?_, ?_, ?_, ?_, ?_⟩, fun r hr i => ?_, fun i => ?_⟩
  · exact q0.trans (me_f (c := 13963) hF hS rfl w0).symm
  · exact q1.trans (me_f (c := 13964) hF hS rfl w1).symm
  · exact q2.trans (me_f (c := 13965) hF hS rfl w2).symm
  · exact q3.trans (me_f (c := 13961) hF hS rfl w3).symm
  · exact q4.trans (me_f (c := 13962) hF hS rfl w4).symm
  · exact q5.trans (me_f (c := 14003) hF hS rfl w5).symm
  · have nr : ab_in wr (r * 128) = false := by
      have := List.any_eq_false.mp w8 r hr
      simpa using this
    have hA : (mx_isA sx_sk r || mx_isB sx_sk r) = true := by
      have all : rk_L.all (fun r => mx_isA sx_sk r || mx_isB sx_sk r) = true := by decide
      exact List.all_eq_true.mp all r hr
    exact RQ_st hq hS hF hr hA nr i
  · rw [ql, lc_fr hS hF w6 w7]
end RQL
/-! the reference's part, exactly -/
/-- the literal of code c has the number z; gl: the rows behind it -/
def rl_R (g : wk_g) (c z : Int) (gl : wk_g) : Prop :=
  (0 ≤ z ∧ z < g 0 4 ∧ g 117 z.toNat = c ∧ (∀ j : Nat, (j : Int) < z → g 117 j ≠ c) ∧ gl = g) ∨
  ((∀ j : Nat, (j : Int) < g 0 4 → g 117 j ≠ c) ∧ g 0 4 < 20 ∧ z = g 0 4 ∧ gl = rf_lit g c)
/-- none is left for it -/
def rl_N (g : wk_g) (c : Int) : Prop := (∀ j : Nat, (j : Int) < g 0 4 → g 117 j ≠ c) ∧ g 0 4 = 20
theorem rl_u {g : wk_g} {c z z' : Int} {gl gl' : wk_g} (h : rl_R g c z gl) (h' : rl_R g c z' gl') : z = z' ∧ gl = gl' := by
  rcases h with ⟨a1, a2, a3, a4, a5⟩ | ⟨a1, a2, a3, a4⟩ <;> rcases h' with ⟨b1, b2, b3, b4, b5⟩ | ⟨b1, b2, b3, b4⟩
  · have : z = z' := by
      rcases Int.lt_trichotomy z z' with x | x | x
      · exact absurd a3 (b4 z.toNat (by omega))
      · exact x
      · exact absurd b3 (a4 z'.toNat (by omega))
    exact ⟨this, a5.trans b5.symm⟩
  · exact absurd a3 (b1 z.toNat (by omega))
  · exact absurd b3 (a1 z'.toNat (by omega))
  · exact ⟨a3.trans b3.symm, a4.trans b4.symm⟩
theorem rl_n {g : wk_g} {c z : Int} {gl : wk_g} (h : rl_R g c z gl) (hn : rl_N g c) : False := by
  rcases h with ⟨a1, a2, a3, a4, a5⟩ | ⟨a1, a2, a3, a4⟩
  · exact hn.1 z.toNat (by omega) a3
  · have := hn.2
    omega
/-- sort and what of the unit that a token makes -/
def pu_s (t v : Int) : Int := if t = 1 then so_r v else if t = 2 then 9 else if t = 40 then 10 else 8
def pu_w (t v : Int) : Int := if t = 2 then v else 0
/-- part, purely: from g to g' -/
def rp_R (g : wk_g) (t v p : Int) (g' : wk_g) : Prop :=
  (t = 40 ∧ g' = rf_beg (rf_o2 (rf_new (rf_o1 (rf_unit g 10 0 p) (g 0 0))) (g 0 0) (g 0 2)) 0) ∨
  ((t = 3 ∨ t = 4) ∧ ∃ z gl, rl_R g (lc_t t v) z gl ∧ g' = rf_put (rf_unit gl 8 z p) (g 0 0)) ∨
  ((t = 1 ∨ t = 2) ∧ g' = rf_put (rf_unit g (pu_s t v) (pu_w t v) p) (g 0 0))
/-- part is at fault (3) -/
def rp_N (g : wk_g) (t v : Int) : Prop := g 0 0 = 60 ∨ (t = 40 ∧ g 0 5 = 4) ∨ ((t = 3 ∨ t = 4) ∧ rl_N g (lc_t t v))
theorem rp_u {g g1 g2 : wk_g} {t v p : Int} (h1 : rp_R g t v p g1) (h2 : rp_R g t v p g2) : g1 = g2 := by
  rcases h1 with ⟨a1, a2⟩ | ⟨a1, z, gl, a2, a3⟩ | ⟨a1, a2⟩ <;> rcases h2 with ⟨b1, b2⟩ | ⟨b1, y, gm, b2, b3⟩ | ⟨b1, b2⟩
  · exact a2.trans b2.symm
  · omega
  · omega
  · omega
  · obtain ⟨e1, e2⟩ := rl_u a2 b2
    subst e1
    subst e2
    exact a3.trans b3.symm
  · omega
  · omega
  · omega
  · exact a2.trans b2.symm
def px_Q (g : wk_g) (h0 : sm_H) (w : Option mi_V) (h' : sm_H) : Prop := w = none ∧ ab_Sh sx_sk h' ∧
  ((rp_N g (mi_f h0 14001) (mx_l h0 14004).toInt ∧ mi_f h' 13960 = 3 + 16 * mi_f h0 14002) ∨
   (¬ rp_N g (mi_f h0 14001) (mx_l h0 14004).toInt ∧ mi_f h' 13960 = 0 ∧ lc_ok h' ∧ ∃ g', rp_R g (mi_f h0 14001) (mx_l h0 14004).toInt (mi_f h0 14002) g' ∧ RQ g' h'))
section PTX
variable {d : Nat} {h h0 : sm_H} {zf zp : Int} {g : wk_g} {Y : wk_Y} {z : rd_Z} {q s : Int}
theorem me_blamex (hS : ab_Sh sx_sk h) (f0 : 1 ≤ zf) (f1 : zf ≤ 9) (p0 : 0 ≤ zp) (p1 : zp ≤ 1000) (h0 : mi_f h 13960 = 0) : me_E d 184 0 [some (.inr (.inr 109)), some (.inl zf), some (.inl zp)] [] h (fun w h' => w = none ∧ ab_Sh sx_sk h' ∧ ab_Fr [(13960, 13961)] h h' ∧ mi_f h' 13960 = zf + 16 * zp) := by
  refine mt_bl hS ⟨by omega, by omega⟩ ⟨by omega, by omega⟩ ?_ ?_
  · intro b c; exact absurd h0 c
  · intro b c
    refine ⟨by omega, fun h1 g1 g2 g3 => ⟨rfl, g1, g3, g2⟩⟩
/-- at 196: the unit is made -/
def px_S (g : wk_g) (h0 h : sm_H) (s : Int) : Prop := pt_S h0 h s ∧
  ((mi_f h 13960 = 0 ∧ lc_ok h ∧ ∃ w gl, RQ (rf_unit gl s w (mi_f h0 14002)) h ∧ gl 0 0 = g 0 0 ∧ gl 0 2 = g 0 2 ∧ ((s = 8 ∧ rl_R g (lc_t (mi_f h0 14001) (mx_l h0 14004).toInt) w gl) ∨ (s ≠ 8 ∧ gl = g ∧ w = pu_w (mi_f h0 14001) (mx_l h0 14004).toInt))) ∨
   (s = 8 ∧ rl_N g (lc_t (mi_f h0 14001) (mx_l h0 14004).toInt) ∧ mi_f h 13960 = 3 + 16 * mi_f h0 14002))
/-- what is asked of the token: one that a part begins with -/
def px_T (h0 : sm_H) : Prop := ip_t (mi_f h0 14001) (mx_l h0 14004).toInt ∧ (mi_f h0 14001 = 3 → 1 ≤ (mx_l h0 14004).toInt ∧ (mx_l h0 14004).toInt ≤ 1073741823) ∧ (mi_f h0 14001 = 4 → 1 ≤ (mx_l h0 14004).toInt ∧ (mx_l h0 14004).toInt ≤ 255)
theorem px_put (hP : pt_P h0 Y z q) (hq : RQ g h0) (hT : px_T h0) (hU : mi_f h0 13963 < 60) (hs : px_S g h0 h s) (ht : s = pu_s (mi_f h0 14001) (mx_l h0 14004).toInt) (s10 : s ≠ 10) : me_E (d + 9) 190 196 [some (.inr (.inr 109)), some (.inl (mi_f h0 13963))] [] h (px_Q g h0) := by
  obtain ⟨hI, q0, hS0, hR, hf0⟩ := hP
  have bU := me_fb (c := 13963) hS0 rfl
  obtain ⟨⟨s1, s2, s3, s4, s5, s6, s7, s8, s9, s11, s12⟩, hx⟩ := hs
  have ok : mi_in (mi_f h0 13963) := ⟨by omega, by omega⟩
  obtain ⟨⟨k0, k1⟩, ⟨f0, f1, f2⟩, c1, ⟨a0, a1⟩, l1, l2, l3, hb⟩ := rs_lev hI hS0
  have e3 : mi_f h 14003 = mi_f h0 14003 := me_f (c := 14003) s2 hS0 rfl rfl
  have sm := me_as [126, 128, 129, 130, 146, 147, 148, 149, 150, 151] s2 hS0 (by decide)
  have e147 := sm 147 (by decide)
  have e149 := sm 149 (by decide)
  have e151 := sm 151 (by decide)
  have eU : mi_a h 119 (mi_f h0 13963).toNat = s := by rw [s4, if_pos rfl]
  have gU : g 0 0 = mi_f h0 13963 := hq.1.1
  have gO : g 0 5 = mi_f h0 14003 := hq.1.2.2.2.2.2
  refine mt_ptG s1 ok ?_ ?_
  · intro b c
    rw [eU] at c
    exact absurd c s10
  intro c
  refine ⟨⟨by omega, by omega⟩, fun h1 g1 g2 => ?_⟩
  have e := me_nil g2
  subst e
  refine ⟨_, me_put (d := d + 8) s1 (by omega) hU (by omega) (by rw [e3, e149, e151]; exact l1) (by rw [e3, e149]; exact l2) (by rw [e3, e147]; exact ⟨a0, a1⟩), fun w h2 ow hq2 => ?_⟩
  obtain ⟨rfl, p1, p2, p3⟩ := hq2
  refine mt_ptH p1 ok (fun h3 g3 g4 => ?_)
  have e := me_nil g4
  subst e
  have ef : mi_f h3 13960 = mi_f h1 13960 := me_f (c := 13960) p2 s1 rfl rfl
  have n40 : mi_f h0 14001 ≠ 40 := fun c => by
    apply s10
    rw [ht, c]
    rfl
  refine ⟨rfl, p1, ?_⟩
  rcases hx with ⟨x1, x2, w, gl, x3, x4, x5, x6⟩ | ⟨x1, x2, x3⟩
  · right
    have lk : lc_ok h3 := fun k hk => by
      rw [me_f (c := 13962) p2 s1 rfl rfl] at hk
      rw [me_a (k := 117) p2 s1 rfl rfl, me_b (k := 118) p2 s1 rfl rfl]
      exact x2 k hk
    have put := RQ_put x3 s1 p2 p3
    rcases x6 with ⟨y1, y2⟩ | ⟨y1, y2, y3⟩
    · have t34 : mi_f h0 14001 = 3 ∨ mi_f h0 14001 = 4 := by
        have ip := hT.1
        unfold ip_t at ip
        rw [y1] at ht
        unfold pu_s at ht
        by_cases c1 : mi_f h0 14001 = 1
        · rw [if_pos c1] at ht
          exfalso
          unfold so_r at ht
          revert ht
          split <;> (try decide)
          split <;> (try decide)
          split <;> (try decide)
          split <;> (try decide)
          split <;> (try decide)
          split <;> (try decide)
          split <;> (try decide)
        · rw [if_neg c1] at ht
          by_cases c2 : mi_f h0 14001 = 2
          · rw [if_pos c2] at ht
            exact absurd ht (by decide)
          · omega
      refine ⟨fun hn => ?_, by omega, lk, _, Or.inr (Or.inl ⟨t34, w, gl, y2, rfl⟩), ?_⟩
      · rcases hn with x | x | x
        · omega
        · exact n40 x.1
        · exact rl_n y2 x.2
      · rw [y1] at put
        rw [gU]
        exact put
    · have t12 : mi_f h0 14001 = 1 ∨ mi_f h0 14001 = 2 := by
        have ip := hT.1
        unfold ip_t at ip
        rw [ht] at y1
        unfold pu_s at y1
        by_cases c1 : mi_f h0 14001 = 1
        · exact Or.inl c1
        · rw [if_neg c1] at y1
          by_cases c2 : mi_f h0 14001 = 2
          · exact Or.inr c2
          · rw [if_neg c2, if_neg n40] at y1
            exact absurd rfl y1
      refine ⟨fun hn => ?_, by omega, lk, _, Or.inr (Or.inr ⟨t12, rfl⟩), ?_⟩
      · rcases hn with x | x | x
        · omega
        · exact n40 x.1
        · omega
      · rw [gU, ← ht, ← y3, ← y2]
        exact put
  · left
    refine ⟨Or.inr (Or.inr ⟨?_, x2⟩), by omega⟩
    have ip := hT.1
    unfold ip_t at ip
    rw [x1] at ht
    unfold pu_s at ht
    by_cases c1 : mi_f h0 14001 = 1
    · rw [if_pos c1] at ht
      exfalso
      unfold so_r at ht
      revert ht
      split <;> (try decide)
      split <;> (try decide)
      split <;> (try decide)
      split <;> (try decide)
      split <;> (try decide)
      split <;> (try decide)
      split <;> (try decide)
    · rw [if_neg c1] at ht
      by_cases c2 : mi_f h0 14001 = 2
      · rw [if_pos c2] at ht
        exact absurd ht (by decide)
      · omega
end PTX
/-! the reference's part, exactly: a group; from its begin -/
section PTY
variable {d : Nat} {h h0 : sm_H} {g : wk_g} {Y : wk_Y} {z : rd_Z} {q s : Int}
theorem px_grp (hP : pt_P h0 Y z q) (hq : RQ g h0) (hU : mi_f h0 13963 < 60) (hs : px_S g h0 h 10) (ht : mi_f h0 14001 = 40) (hk4 : mi_f h0 14003 ≠ 4) : me_E (d + 9) 190 196 [some (.inr (.inr 109)), some (.inl (mi_f h0 13963))] [] h (px_Q g h0) := by
  obtain ⟨hI, q0, hS0, hR, hf0⟩ := hP
  have bU := me_fb (c := 13963) hS0 rfl
  have bR := me_fb (c := 13961) hS0 rfl
  have bA := me_fb (c := 13964) hS0 rfl
  have bF := me_fb (c := 13965) hS0 rfl
  obtain ⟨⟨s1, s2, s3, s4, s5, s6, s7, s8, s9, s11, s12⟩, hx⟩ := hs
  have ok : mi_in (mi_f h0 13963) := ⟨by omega, by omega⟩
  obtain ⟨⟨k0, k1⟩, ⟨f0, f1, f2⟩, c1, ⟨a0, a1⟩, l1, l2, l3, hb⟩ := rs_lev hI hS0
  obtain ⟨⟨i1, i2, i3, i4, i5, i6, i7, i9⟩, i10, i11⟩ := hI
  have e3 : mi_f h 14003 = mi_f h0 14003 := me_f (c := 14003) s2 hS0 rfl rfl
  have eF : mi_f h 13965 = mi_f h0 13965 := me_f (c := 13965) s2 hS0 rfl rfl
  have eA : mi_f h 13964 = mi_f h0 13964 := me_f (c := 13964) s2 hS0 rfl rfl
  have eU : mi_a h 119 (mi_f h0 13963).toNat = 10 := by rw [s4, if_pos rfl]
  have gU : g 0 0 = mi_f h0 13963 := hq.1.1
  have gF : g 0 2 = mi_f h0 13965 := hq.1.2.2.1
  have gO : g 0 5 = mi_f h0 14003 := hq.1.2.2.2.2.2
  have hx1 : mi_f h 13960 = 0 ∧ lc_ok h ∧ RQ (rf_unit g 10 0 (mi_f h0 14002)) h := by
    rcases hx with ⟨x1, x2, w, gl, x3, x4, x5, x6⟩ | ⟨x1, x2, x3⟩
    · rcases x6 with ⟨y1, y2⟩ | ⟨y1, y2, y3⟩
      · exact absurd y1 (by decide)
      · have ew : w = 0 := by rw [y3, ht]; rfl
        rw [y2, ew] at x3
        exact ⟨x1, x2, x3⟩
    · exact absurd x1 (by decide)
  obtain ⟨x1, x2, x3⟩ := hx1
  clear hx
  refine mt_ptG s1 ok ?_ ?_
  rotate_left
  · intro c
    exact absurd eU c
  intro b c
  refine ⟨⟨⟨by omega, by omega⟩, ⟨by omega, by omega⟩, ⟨by omega, by omega⟩, ⟨by omega, by omega⟩, ⟨by omega, by omega⟩⟩, fun h1 g1 g2 g3 g4 => ?_⟩
  have eF1 : mi_f h1 13965 = mi_f h0 13965 := (me_f (c := 13965) g4 s1 rfl rfl).trans eF
  have R1 := RQ_o1 x3 s1 g4 g2 g3
  refine ⟨_, me_newForm (d := d + 8) g1 (by omega), fun w h2 ow hq2 => ?_⟩
  obtain ⟨rfl, p1, p2, p3, p4, p5⟩ := hq2
  have R2 := RQ_new R1 g1 p2 p3 p4 p5
  have e32 : mi_f h2 14003 = mi_f h0 14003 + 1 := by rw [me_f (c := 14003) p2 g1 rfl rfl, g2, e3]
  refine mt_ptI (zz := mi_f h1 13965) (zv := mi_f h 14003 + 1) p1 ok ⟨by omega, by omega⟩ ⟨by omega, by omega⟩ ?_
  intro b2
  refine ⟨⟨⟨by omega, by omega⟩, ⟨by omega, by omega⟩, ⟨by omega, by omega⟩, ⟨by omega, by omega⟩⟩, fun h3 r1 r2 r3 r4 => ?_⟩
  have R3 := RQ_o2 (u := mi_f h0 13963) (f := mi_f h0 13965) R2 p1 r4 (fun i => by rw [r2, e32, e3, if_pos rfl, eF1]) (fun i => by rw [r3, eF1, e32, e3])
  have e33 : mi_f h3 14003 = mi_f h0 14003 + 1 := by rw [me_f (c := 14003) r4 p1 rfl rfl, e32]
  have eA3 : mi_f h3 13964 = mi_f h0 13964 := by rw [me_f (c := 13964) r4 p1 rfl rfl, me_f (c := 13964) p2 g1 rfl rfl, me_f (c := 13964) g4 s1 rfl rfl, eA]
  have top : mi_a h3 146 (mi_f h3 14003).toNat = mi_f h0 13965 := by rw [r3, e33, e3, if_pos rfl, eF1]
  have ch : mi_a h3 130 (mi_a h3 146 (mi_f h3 14003).toNat).toNat = 0 := by rw [top, me_a (k := 130) r4 p1 rfl rfl, p5, eF1, if_pos rfl]
  refine ⟨_, me_beginx (d := d + 8) (zp := 0) r1 ⟨by decide, by decide⟩ (by omega) (by omega) (by rw [top]; omega) (by rw [top]; omega) (by rw [ch]; decide) (fun c => absurd ch c), fun w h4 ow hq2 => ?_⟩
  obtain ⟨rfl, t1, t2, t3, t4⟩ := hq2
  have R4 := RQ_beg R3 r1 t2 t3 t4
  refine mt_ptJ t1 ok (fun h5 u1 u2 => ?_)
  have e := me_nil u2
  subst e
  have FF : ab_Fr [(13964, 13966), (14003, 14004), (15360, 15361), (16128, 16641), (18688, 19329)] h h5 := (((g4.wide (fun c hc => ab_swr_ok (by decide) hc)).trans (p2.wide (fun c hc => ab_swr_ok (by decide) hc))).trans (r4.wide (fun c hc => ab_swr_ok (by decide) hc))).trans (t2.wide (fun c hc => ab_swr_ok (by decide) hc))
  have ef : mi_f h5 13960 = 0 := (me_f (c := 13960) FF s1 rfl rfl).trans x1
  refine ⟨rfl, t1, Or.inr ⟨fun hn => ?_, ef, fun k hk => ?_, _, Or.inl ⟨ht, rfl⟩, ?_⟩⟩
  · clear s9 s11 i7 i9 l1
    rcases hn with x | x | x
    · omega
    · omega
    · omega
  · rw [me_f (c := 13962) FF s1 rfl rfl] at hk
    rw [me_a (k := 117) FF s1 rfl rfl, me_b (k := 118) FF s1 rfl rfl]
    exact x2 k hk
  · rw [gU, gF]
    exact R4
theorem px_go (hP : pt_P h0 Y z q) (hq : RQ g h0) (hT : px_T h0) (hU : mi_f h0 13963 < 60) (hk : mi_f h0 14001 = 40 → mi_f h0 14003 ≠ 4) (hs : px_S g h0 h s) (ht : s = pu_s (mi_f h0 14001) (mx_l h0 14004).toInt) : me_E (d + 9) 190 196 [some (.inr (.inr 109)), some (.inl (mi_f h0 13963))] [] h (px_Q g h0) := by
  by_cases c : mi_f h0 14001 = 40
  · have s10 : s = 10 := by rw [ht, c]; rfl
    subst s10
    exact px_grp hP hq hU hs c (hk c)
  · refine px_put hP hq hT hU hs ht (fun s10 => ?_)
    rw [s10] at ht
    unfold pu_s at ht
    by_cases c1 : mi_f h0 14001 = 1
    · rw [if_pos c1] at ht
      unfold so_r at ht
      revert ht
      split <;> (try decide)
      split <;> (try decide)
      split <;> (try decide)
      split <;> (try decide)
      split <;> (try decide)
      split <;> (try decide)
      split <;> (try decide)
    · rw [if_neg c1] at ht
      by_cases c2 : mi_f h0 14001 = 2
      · rw [if_pos c2] at ht
        exact absurd ht (by decide)
      · rw [if_neg c2, if_neg c] at ht
        exact absurd ht (by decide)
theorem px155 (hP : pt_P h0 Y z q) (hq : RQ g h0) (hT : px_T h0) (hU : mi_f h0 13963 < 60) (hk : mi_f h0 14001 = 40 → mi_f h0 14003 ≠ 4) (hs : pt_T h0 h s) (hr : RQ (rf_unit g s (pu_w (mi_f h0 14001) (mx_l h0 14004).toInt) (mi_f h0 14002)) h) (hl : lc_ok h) (ht : s = pu_s (mi_f h0 14001) (mx_l h0 14004).toInt) : me_E (d + 9) 190 155 [some (.inr (.inr 109)), some (.inl (mi_f h0 13963))] [] h (px_Q g h0) := by
  have hS0 := hP.2.2.1
  have bU := me_fb (c := 13963) hS0 rfl
  have bP := hP.2.2.2.1.1
  have ok : mi_in (mi_f h0 13963) := ⟨by omega, by omega⟩
  obtain ⟨s1, s2, s3, s4, s5, s6, s7, s8, s9, s10⟩ := id hs
  have eU : mi_a h 119 (mi_f h0 13963).toNat = s := by rw [s4, if_pos rfl]
  have g04 : g 0 4 = mi_f h 13962 := hr.1.2.2.2.2.1
  have g117 : ∀ i, g 117 i = lc_r h i := hr.2.2
  refine mt_ptE s1 ok ?_ ?_
  · intro c
    refine ⟨⟨by omega, by omega⟩, fun h1 g1 g2 => ?_⟩
    have e := me_nil g2
    subst e
    rw [eU] at c
    exact px_go hP hq hT hU hk ⟨⟨s1, s2, s3, s4, s5, s6, s7, by omega, s9, fun x => absurd x c, s10⟩, Or.inl ⟨s8, hl, _, g, hr, rfl, rfl, Or.inr ⟨c, rfl, rfl⟩⟩⟩ ht
  · intro c
    refine ⟨⟨by omega, by omega⟩, fun h1 g1 g2 => ?_⟩
    have e := me_nil g2
    subst e
    rw [eU] at c
    have e01 : mi_f h1 14001 = mi_f h0 14001 := me_f (c := 14001) s2 hS0 rfl rfl
    have e04 : mx_l h1 14004 = mx_l h0 14004 := me_l (c := 14004) s2 hS0 rfl rfl
    have t34 : mi_f h0 14001 = 3 ∨ mi_f h0 14001 = 4 := by
      have ip := hT.1
      unfold ip_t at ip
      rw [c] at ht
      unfold pu_s at ht
      by_cases c1 : mi_f h0 14001 = 1
      · rw [if_pos c1] at ht
        exfalso
        unfold so_r at ht
        revert ht
        split <;> (try decide)
        split <;> (try decide)
        split <;> (try decide)
        split <;> (try decide)
        split <;> (try decide)
        split <;> (try decide)
        split <;> (try decide)
      · rw [if_neg c1] at ht
        by_cases c2 : mi_f h0 14001 = 2
        · rw [if_pos c2] at ht
          exact absurd ht (by decide)
        · by_cases c3 : mi_f h0 14001 = 40
          · rw [if_neg c2, if_pos c3] at ht
            exact absurd ht (by decide)
          · omega
    refine ⟨_, me_literalx (d := d + 8) s1 hl (by
      rw [e01, e04]
      rcases t34 with x | x
      · exact Or.inl ⟨x, hT.2.1 x⟩
      · exact Or.inr ⟨x, hT.2.2 x⟩), fun w h2 ow hq2 => ?_⟩
    obtain ⟨q1, q2, v, rfl, hv⟩ := hq2
    rw [e01, e04] at hv
    have F2 : ab_Fr pt_V h0 h2 := s2.trans (q2.wide (fun c hc => ab_swr_ok (by decide) hc))
    have bl := me_fb (c := 13962) s1 rfl
    have ef : mi_f h2 13960 = 0 := (me_f (c := 13960) q2 s1 rfl rfl).trans s8
    have v0 : 0 ≤ v ∧ v ≤ 20 := by
      rcases hv with x | ⟨-, x | x⟩
      · omega
      · omega
      · omega
    have e2 : mi_f h2 14002 = mi_f h0 14002 := me_f (c := 14002) F2 hS0 rfl rfl
    have mk : ∀ {h3 : sm_H} {wr : List (Nat × Nat)}, ab_Sh sx_sk h3 → ab_Fr wr h2 h3 → ab_sub_wr wr [(13960, 13961), (15360, 15361)] = true → (∀ i, mi_a h3 120 i = if i = (mi_f h0 13963).toNat then v else mi_a h2 120 i) → (v < 20 ∨ 0 < mi_f h3 13960) → 0 ≤ mi_f h3 13960 → pt_S h0 h3 s := fun {h3 wr} r1 r2 hw r3 r4 r5 => by
      have r2 : ab_Fr [(13960, 13961), (15360, 15361)] h2 h3 := r2.wide (fun c hc => ab_swr_ok hw hc)
      refine ⟨r1, F2.trans (r2.wide (fun c hc => ab_swr_ok (by decide) hc)), ?_, fun i => ?_, fun i hi => ?_, fun i => ?_, fun i => ?_, r5, fun x => by omega, fun _ => ?_, fun i => ?_⟩
      · rw [me_f (c := 13963) r2 q1 rfl rfl, me_f (c := 13963) q2 s1 rfl rfl, s3]
      · rw [me_a (k := 119) r2 q1 rfl rfl, me_a (k := 119) q2 s1 rfl rfl, s4]
      · rw [r3, if_neg hi, me_a (k := 120) q2 s1 rfl rfl, s5 i hi]
      · rw [me_a (k := 124) r2 q1 rfl rfl, me_a (k := 124) q2 s1 rfl rfl, s6]
      · rw [me_a (k := 125) r2 q1 rfl rfl, me_a (k := 125) q2 s1 rfl rfl, s7]
      · rw [r3, if_pos rfl]
        exact ⟨v0.1, r4⟩
      · rw [me_a (k := 121) r2 q1 rfl rfl, me_a (k := 121) q2 s1 rfl rfl, s10]
    have U0 : mi_f h1 13963 = mi_f h0 13963 + 1 := s3
    /- the rows with the literal's number -/
    have fin : ∀ {h3 : sm_H} {gl : wk_g}, RQ (rf_unit gl s (pu_w (mi_f h0 14001) (mx_l h0 14004).toInt) (mi_f h0 14002)) h2 → gl 0 0 = g 0 0 → ab_Sh sx_sk h3 → (∀ i, mi_a h3 120 i = if i = (mi_f h0 13963).toNat then v else mi_a h2 120 i) → ab_Fr [(15360, 15361)] h2 h3 → RQ (rf_unit gl s v (mi_f h0 14002)) h3 := fun {h3 gl} y1 y2 y3 y4 y5 => by
      have W := RQ_word (u := mi_f h0 13963) (w := v) y1 q1 y5 y4
      have gU : gl 0 0 = mi_f h0 13963 := y2.trans hq.1.1
      obtain ⟨a1, a2, a3⟩ := W
      refine ⟨a1, fun r hr i => ?_, a3⟩
      have := a2 r hr i
      rw [← this]
      unfold rf_word rf_unit
      rw [gU]
      by_cases c120 : r = 120
      · subst c120
        simp only [if_true]
        by_cases ci : i = (mi_f h0 13963).toNat
        · simp [ci]
        · simp [ci]
      · simp [c120]
    refine mt_ptF (zz := v) (zv := mi_f h0 13963) q1 ok ⟨by omega, by omega⟩ ok ?_ ?_
    · intro c2
      rw [if_pos rfl] at c2
      refine ⟨⟨⟨by omega, by omega⟩, ⟨by omega, by omega⟩⟩, fun h3 r1 r2 r3 => ?_⟩
      have ef3 : mi_f h3 13960 = 0 := (me_f (c := 13960) r3 q1 rfl rfl).trans ef
      have lk3 : lc_ok h2 → lc_ok h3 := fun x k hk => by
        rw [me_f (c := 13962) r3 q1 rfl rfl] at hk
        rw [me_a (k := 117) r3 q1 rfl rfl, me_b (k := 118) r3 q1 rfl rfl]
        exact x k hk
      rcases hv with ⟨x1, x2, x3, x4, x5⟩ | ⟨x1, x2 | ⟨y1, y2, y3, y4, y5⟩⟩
      · subst x5
        refine px_go hP hq hT hU hk ⟨mk r1 r3 (by decide) r2 (Or.inl (by omega)) (by omega), Or.inl ⟨ef3, lk3 hl, v, g, fin hr rfl r1 r2 r3, rfl, rfl, Or.inl ⟨c, Or.inl ⟨x1, by omega, ?_, fun j hj => ?_, rfl⟩⟩⟩⟩ ht
        · rw [g117]; exact x3
        · rw [g117]; exact x4 j hj
      · exfalso; omega
      · have RL := RQ_lit hr s1 q2 y3 y5
        have same : rf_lit (rf_unit g s (pu_w (mi_f h0 14001) (mx_l h0 14004).toInt) (mi_f h0 14002)) (lc_t (mi_f h0 14001) (mx_l h0 14004).toInt) = rf_unit (rf_lit g (lc_t (mi_f h0 14001) (mx_l h0 14004).toInt)) s (pu_w (mi_f h0 14001) (mx_l h0 14004).toInt) (mi_f h0 14002) := by
          funext r i
          unfold rf_lit rf_unit
          by_cases c0 : r = 0
          · subst c0
            simp only [if_true]
            by_cases i4 : i = 4
            · subst i4; simp
            · by_cases i0 : i = 0
              · subst i0; simp
              · simp [i4, i0]
          · by_cases c117 : r = 117
            · subst c117
              simp
            · simp [c0, c117]
        rw [same] at RL
        refine px_go hP hq hT hU hk ⟨mk r1 r3 (by decide) r2 (Or.inl (by omega)) (by omega), Or.inl ⟨ef3, lk3 y4, v, _, fin RL rfl r1 r2 r3, rfl, rfl, Or.inl ⟨c, Or.inr ⟨fun j hj => ?_, by omega, by omega, rfl⟩⟩⟩⟩ ht
        rw [g117]
        exact x1 j (by omega)
    · intro c2
      rw [if_pos rfl] at c2
      refine ⟨⟨⟨by omega, by omega⟩, ⟨by omega, by omega⟩⟩, fun h3 r1 r2 r3 => ?_⟩
      have ef3 : mi_f h3 13960 = 0 := (me_f (c := 13960) r3 q1 rfl rfl).trans ef
      refine ⟨_, me_blamex (d := d + 8) r1 (by decide) (by decide) (by omega) (by omega) ef3, fun w h4 ow hq2 => ?_⟩
      obtain ⟨rfl, t1, t2, t3⟩ := hq2
      have F4 : ab_Fr [(13960, 13961), (15360, 15361)] h2 h4 := (r3.wide (fun c hc => ab_swr_ok (by decide) hc)).trans (t2.wide (fun c hc => ab_swr_ok (by decide) hc))
      rcases hv with ⟨x1, x2, x3, x4, x5⟩ | ⟨x1, ⟨y1, y2, y3⟩ | y⟩
      · exfalso; omega
      · refine px_go hP hq hT hU hk ⟨mk t1 F4 (by decide) (fun i => by rw [me_a (k := 120) t2 r1 rfl rfl, r2]) (Or.inr (by omega)) (by omega), Or.inr ⟨c, ⟨fun j hj => ?_, by omega⟩, by omega⟩⟩ ht
        rw [g117]
        exact x1 j (by omega)
      · exfalso; omega
end PTY
/-! the reference's part, exactly: joined; plus -/
section PTZ
variable {d : Nat} {h h0 : sm_H} {g : wk_g} {Y : wk_Y} {z : rd_Z} {q s : Int}
theorem px101 (hP : pt_P h0 Y z q) (hq : RQ g h0) (hT : px_T h0) (hl : lc_ok h0) (hU : mi_f h0 13963 < 60) (hk : mi_f h0 14001 = 40 → mi_f h0 14003 ≠ 4) (ht : s = pu_s (mi_f h0 14001) (mx_l h0 14004).toInt) (ht2 : s = 9 → mi_f h0 14001 = 2) (hv2 : mi_f h0 14001 = 2 → (mx_l h0 14004).toInt32.toInt = (mx_l h0 14004).toInt) (s1 : ab_Sh sx_sk h) (s2 : ab_Fr [(13963, 13964), (15232, 15233)] h0 h) (s3 : mi_f h 13963 = mi_f h0 13963 + 1) (s4 : ∀ i, mi_a h 119 i = if i = (mi_f h0 13963).toNat then s else mi_a h0 119 i) : me_E (d + 9) 190 101 [some (.inr (.inr 109)), some (.inl (mi_f h0 13963))] [] h (px_Q g h0) := by
  have hS0 := hP.2.2.1
  have bU := me_fb (c := 13963) hS0 rfl
  have ok : mi_in (mi_f h0 13963) := ⟨by omega, by omega⟩
  have e1 : mi_f h 14001 = mi_f h0 14001 := me_f (c := 14001) s2 hS0 rfl rfl
  have e4 : mx_l h 14004 = mx_l h0 14004 := me_l (c := 14004) s2 hS0 rfl rfl
  have e2 : mi_f h 14002 = mi_f h0 14002 := me_f (c := 14002) s2 hS0 rfl rfl
  have go : ∀ {h3 : sm_H} {v : Int}, v = pu_w (mi_f h0 14001) (mx_l h0 14004).toInt → ab_Sh sx_sk h3 → (∀ i, mi_a h3 120 i = if i = (mi_f h0 13963).toNat then v else mi_a h 120 i) → (∀ i, mi_a h3 121 i = if i = (mi_f h0 13963).toNat then mi_f h 14002 else mi_a h 121 i) → (∀ i, mi_a h3 122 i = if i = (mi_f h0 13963).toNat then 0 else mi_a h 122 i) → (∀ i, mi_a h3 124 i = if i = (mi_f h0 13963).toNat then -1 else mi_a h 124 i) → (∀ i, mi_a h3 125 i = if i = (mi_f h0 13963).toNat then -1 else mi_a h 125 i) → ab_Fr [(15360, 15361), (15488, 15489), (15616, 15617), (15872, 15873), (16000, 16001)] h h3 → (s = 9 → 0 ≤ v ∧ v < 26) → me_E (d + 9) 190 155 [some (.inr (.inr 109)), some (.inl (mi_f h0 13963))] [] h3 (px_Q g h0) := fun {h3 v} ev r1 r2 r2p r2w r3 r4 r5 r6 => by
    have FA : ab_Fr [(13963, 13964), (15232, 15233), (15360, 15361), (15488, 15489), (15616, 15617), (15872, 15873), (16000, 16001)] h0 h3 := (s2.wide (fun c hc => ab_swr_ok (by decide) hc)).trans (r5.wide (fun c hc => ab_swr_ok (by decide) hc))
    have a119 : ∀ i, mi_a h3 119 i = if i = (mi_f h0 13963).toNat then s else mi_a h0 119 i := fun i => by rw [me_a (k := 119) r5 s1 rfl rfl, s4]
    have a120 : ∀ i, mi_a h3 120 i = if i = (mi_f h0 13963).toNat then v else mi_a h0 120 i := fun i => by rw [r2, me_a (k := 120) s2 hS0 rfl rfl]
    have a121 : ∀ i, mi_a h3 121 i = if i = (mi_f h0 13963).toNat then mi_f h0 14002 else mi_a h0 121 i := fun i => by rw [r2p, e2, me_a (k := 121) s2 hS0 rfl rfl]
    have a122 : ∀ i, mi_a h3 122 i = if i = (mi_f h0 13963).toNat then 0 else mi_a h0 122 i := fun i => by rw [r2w, me_a (k := 122) s2 hS0 rfl rfl]
    have a124 : ∀ i, mi_a h3 124 i = if i = (mi_f h0 13963).toNat then -1 else mi_a h0 124 i := fun i => by rw [r3, me_a (k := 124) s2 hS0 rfl rfl]
    have a125 : ∀ i, mi_a h3 125 i = if i = (mi_f h0 13963).toNat then -1 else mi_a h0 125 i := fun i => by rw [r4, me_a (k := 125) s2 hS0 rfl rfl]
    have f63 : mi_f h3 13963 = mi_f h0 13963 + 1 := (me_f (c := 13963) r5 s1 rfl rfl).trans s3
    have T : pt_T h0 h3 s := by
      refine ⟨r1, FA.wide (fun c hc => ab_swr_ok (by decide) hc), f63, a119, fun i hi => ?_, a124, a125, ?_, fun x => ?_, a121⟩
      · rw [a120, if_neg hi]
      · rw [me_f (c := 13960) FA hS0 rfl rfl]
        exact hP.2.2.2.2
      · rw [a120, if_pos rfl]
        exact r6 x
    have RU := RQ_unit (s := s) (w := v) (p := mi_f h0 14002) hq hS0 FA f63 a119 a120 a121 a122 a124 a125
    rw [ev] at RU
    refine px155 hP hq hT hU hk T RU (fun k hk => ?_) ht
    rw [me_f (c := 13962) FA hS0 rfl rfl] at hk
    rw [me_a (k := 117) FA hS0 rfl rfl, me_b (k := 118) FA hS0 rfl rfl]
    exact hl k hk
  refine mt_ptD s1 ok ?_ ?_
  · intro b c
    refine ⟨⟨by omega, by omega⟩, fun h1 g1 g2 g3 g4 g5 g6 g7 => ?_⟩
    refine go (v := 0) ?_ g1 g2 g3 g4 g5 g6 g7 (fun x => by have := ht2 x; omega)
    unfold pu_w
    rw [if_neg (by omega)]
  · intro b c
    have tv := hP.2.2.2.1.2.2.1 (by omega)
    refine ⟨⟨by omega, by omega⟩, fun h1 g1 g2 g3 g4 g5 g6 g7 => ?_⟩
    rw [e4] at g2
    refine go (v := (mx_l h0 14004).toInt32.toInt) ?_ g1 g2 g3 g4 g5 g6 g7 (fun _ => tv)
    unfold pu_w
    rw [if_pos (by omega)]
    exact hv2 (by omega)
theorem pu_s9 {t v : Int} (h : pu_s t v = 9) : t = 2 := by
  unfold pu_s at h
  by_cases c1 : t = 1
  · rw [if_pos c1] at h
    exfalso
    unfold so_r at h
    revert h
    split <;> (try decide)
    split <;> (try decide)
    split <;> (try decide)
    split <;> (try decide)
    split <;> (try decide)
    split <;> (try decide)
    split <;> (try decide)
  · rw [if_neg c1] at h
    by_cases c2 : t = 2
    · exact c2
    · rw [if_neg c2] at h
      by_cases c3 : t = 40
      · rw [if_pos c3] at h
        exact absurd h (by decide)
      · rw [if_neg c3] at h
        exact absurd h (by decide)
theorem so_r_b (v : Int) : -1 ≤ so_r v ∧ so_r v ≤ 7 := by
  unfold so_r
  split
  · decide
  split
  · decide
  split
  · decide
  split
  · decide
  split
  · decide
  split
  · decide
  split <;> decide
theorem px48 (hP : pt_P h0 Y z q) (hq : RQ g h0) (hT : px_T h0) (hl : lc_ok h0) (hU : mi_f h0 13963 < 60) (hk : mi_f h0 14001 = 40 → mi_f h0 14003 ≠ 4) (hv2 : mi_f h0 14001 = 2 → (mx_l h0 14004).toInt32.toInt = (mx_l h0 14004).toInt) (s1 : ab_Sh sx_sk h) (s2 : ab_Fr [(13963, 13964)] h0 h) (s3 : mi_f h 13963 = mi_f h0 13963 + 1) : me_E (d + 9) 190 48 [some (.inr (.inr 109)), some (.inl (mi_f h0 13963))] [] h (px_Q g h0) := by
  have hS0 := hP.2.2.1
  have bU := me_fb (c := 13963) hS0 rfl
  have ok : mi_in (mi_f h0 13963) := ⟨by omega, by omega⟩
  have e1 : mi_f h 14001 = mi_f h0 14001 := me_f (c := 14001) s2 hS0 rfl rfl
  have e4 : mx_l h 14004 = mx_l h0 14004 := me_l (c := 14004) s2 hS0 rfl rfl
  have fin : ∀ {h3 : sm_H} {s : Int}, ab_Sh sx_sk h3 → (∀ i, mi_a h3 119 i = if i = (mi_f h0 13963).toNat then s else mi_a h 119 i) → ab_Fr [(15232, 15233)] h h3 → s = pu_s (mi_f h0 14001) (mx_l h0 14004).toInt → me_E (d + 9) 190 101 [some (.inr (.inr 109)), some (.inl (mi_f h0 13963))] [] h3 (px_Q g h0) := fun {h3 s} r1 r2 r3 r4 => by
    refine px101 hP hq hT hl hU hk r4 (fun x => pu_s9 (r4.symm.trans x)) hv2 r1 ((s2.wide (fun c hc => ab_swr_ok (by decide) hc)).trans (r3.wide (fun c hc => ab_swr_ok (by decide) hc))) ((me_f (c := 13963) r3 s1 rfl rfl).trans s3) (fun i => ?_)
    rw [r2, me_a (k := 119) s2 hS0 rfl rfl]
  refine mt_ptB s1 ok ?_ ?_ ?_ ?_
  · intro b c1 c2 c3
    refine ⟨⟨by omega, by omega⟩, fun h1 g1 g2 g3 => fin g1 g2 g3 ?_⟩
    unfold pu_s
    rw [if_neg (by omega), if_neg (by omega), if_neg (by omega)]
  · intro b c1 c2 c3
    refine ⟨⟨by omega, by omega⟩, fun h1 g1 g2 g3 => fin g1 g2 g3 ?_⟩
    unfold pu_s
    rw [if_neg (by omega), if_neg (by omega), if_pos (by omega)]
  · intro b c1 c2
    refine ⟨⟨by omega, by omega⟩, fun h1 g1 g2 g3 => fin g1 g2 g3 ?_⟩
    unfold pu_s
    rw [if_neg (by omega), if_pos (by omega)]
  · intro b c1 h1 g1 g2
    have e := me_nil g2
    subst e
    refine ⟨_, me_sortx (d := d + 8) s1, fun w h2 ow hq2 => ?_⟩
    obtain ⟨rfl, rfl⟩ := hq2
    have sb := so_r_b (mx_l h2 14004).toInt
    refine mt_ptC (zz := so_r (mx_l h2 14004).toInt) (zv := mi_f h0 13963) s1 ok ⟨by omega, by omega⟩ ok ?_
    refine ⟨⟨⟨by omega, by omega⟩, ⟨by omega, by omega⟩⟩, fun h3 g1 g2 g3 => fin g1 g2 g3 ?_⟩
    unfold pu_s
    rw [if_pos (by omega), e4]
theorem me_partx (hP : pt_P h0 Y z q) (hq : RQ g h0) (hT : px_T h0) (hl : lc_ok h0) (hv2 : mi_f h0 14001 = 2 → (mx_l h0 14004).toInt32.toInt = (mx_l h0 14004).toInt) : me_E (d + 9) 190 0 [some (.inr (.inr 109)), none] [] h0 (px_Q g h0) := by
  have hS0 := hP.2.2.1
  have bP := hP.2.2.2.1.1
  have hf := hP.2.2.2.2
  have gU : g 0 0 = mi_f h0 13963 := hq.1.1
  have gO : g 0 5 = mi_f h0 14003 := hq.1.2.2.2.2.2
  have bl : rp_N g (mi_f h0 14001) (mx_l h0 14004).toInt → ∃ Q1, me_E (d + 8) 184 0 (mi_entry 3 [.inr (.inr 109), .inl ((3 : Int)), .inl (mi_f h0 14002)]) [] h0 Q1 ∧ ∀ w h2, (∀ x, w = some x → mi_ok x) → Q1 w h2 → me_E (d + 9) 190 35 [some (.inr (.inr 109)), none] (mi_back w []) h2 (px_Q g h0) := fun hn => by
    refine ⟨_, me_blamex (d := d + 8) hS0 (by decide) (by decide) (by omega) (by omega) hf, fun w h2 ow hq => ?_⟩
    obtain ⟨rfl, t1, t2, t3⟩ := hq
    refine mt_ptK t1 (fun h3 g1 g2 => ?_)
    have e := me_nil g2
    subst e
    exact ⟨rfl, t1, Or.inl ⟨hn, t3⟩⟩
  refine mt_ptA hS0 ?_ ?_ ?_ ?_
  · intro b c h1 g1 g2
    have e := me_nil g2
    subst e
    exact bl (Or.inl (by omega))
  · intro b1 b2 c1 c2
    refine ⟨⟨⟨by omega, by omega⟩, ⟨by omega, by omega⟩⟩, fun h1 g1 g2 g3 => px48 hP hq hT hl (by omega) (fun x => absurd x c2) hv2 g1 g3 g2⟩
  · intro b1 b2 b3 c1 c2 c3
    refine ⟨⟨⟨by omega, by omega⟩, ⟨by omega, by omega⟩⟩, fun h1 g1 g2 g3 => px48 hP hq hT hl (by omega) (fun _ => c3) hv2 g1 g3 g2⟩
  · intro b1 b2 b3 c1 c2 c3 h1 g1 g2
    have e := me_nil g2
    subst e
    exact bl (Or.inr (Or.inl ⟨by omega, by omega⟩))
end PTZ
/-! READING, purely: a turn of form; two posts of one run -/
/-- what a token's numbers are -/
theorem tk_f {n : Int} {c : Nat → Int} {a t v p e : Int} (a1 : a ≤ n) (h : tk_T n c a t v p e) : (a ≤ p ∧ p ≤ n) ∧ (t ≠ 0 → p < n) ∧ (t ≠ 0 → t ≠ 6 → p < e ∧ e ≤ n) ∧ (t = 2 → 0 ≤ v ∧ v ≤ 25) ∧ (t = 4 → 33 ≤ v ∧ v ≤ 126) ∧ (t = 5 → 0 ≤ v ∧ v ≤ 9) ∧ (0 ≤ t ∧ t ≤ 126) := by
  obtain ⟨h1, h2⟩ := h
  have pn := tx_end_n h1 a1
  have ap := h1.1
  rcases h2 with ⟨x1, x2⟩ | ⟨x1, x2⟩
  · refine ⟨⟨ap, pn⟩, fun x => absurd x2 x, fun x => absurd x2 x, ?_, ?_, ?_, ?_⟩
    · intro x; exfalso; omega
    · intro x; exfalso; omega
    · intro x; exfalso; omega
    · omega
  · refine ⟨⟨ap, pn⟩, fun _ => x1, ?_⟩
    unfold tx_low tx_cap tx_dig tx_own at x2
    rcases x2 with ⟨x3, x4, x5, x6⟩ | ⟨x3, x4, x5, x6⟩ | ⟨x3, x4, x5, x6⟩ | ⟨x3, q, x5, x6⟩ | ⟨x3, x4⟩ | ⟨x3, x4, x5, x6⟩ | ⟨x3, x4, x5, x6, x7, x8, x9⟩
    · have en := tx_end_n x5 (by omega)
      have pe : p < e := by
        rcases Int.lt_or_le p e with y | y
        · exact y
        · have ee : e = p := by have := x5.1; omega
          exact absurd ⟨by omega, by rw [ee]; exact x3⟩ x5.2.2
      refine ⟨fun _ _ => ⟨pe, en⟩, ?_, ?_, ?_, ?_⟩
      · intro x; exfalso; omega
      · intro x; exfalso; omega
      · intro x; exfalso; omega
      · omega
    · refine ⟨fun _ _ => ⟨by omega, by omega⟩, fun _ => by omega, ?_, ?_, ?_⟩
      · intro x; exfalso; omega
      · intro x; exfalso; omega
      · omega
    · refine ⟨fun _ _ => ⟨by omega, by omega⟩, ?_, ?_, fun _ => by omega, ?_⟩
      · intro x; exfalso; omega
      · intro x; exfalso; omega
      · omega
    · have q1 := x5.1
      have qn := tx_end_n x5 (by omega)
      rcases x6 with ⟨u1, u2, u3, u4, u5, u6, u7⟩ | ⟨u1, u2⟩
      · refine ⟨fun _ _ => ⟨by omega, by omega⟩, ?_, ?_, ?_, ?_⟩
        · intro x; exfalso; omega
        · intro x; exfalso; omega
        · intro x; exfalso; omega
        · omega
      · refine ⟨fun _ x => absurd u2 x, ?_, ?_, ?_, ?_⟩
        · intro x; exfalso; omega
        · intro x; exfalso; omega
        · intro x; exfalso; omega
        · omega
    · rcases x4 with ⟨u1, u2, u3, u4, u5⟩ | ⟨u1, u2⟩
      · obtain ⟨w1, w2, -⟩ := u2
        refine ⟨fun _ _ => ⟨by omega, by omega⟩, ?_, fun _ => by omega, ?_, ?_⟩
        · intro x; exfalso; omega
        · intro x; exfalso; omega
        · omega
      · refine ⟨fun _ x => absurd u2 x, ?_, ?_, ?_, ?_⟩
        · intro x; exfalso; omega
        · intro x; exfalso; omega
        · intro x; exfalso; omega
        · omega
    · refine ⟨fun _ _ => ⟨by omega, by omega⟩, ?_, ?_, ?_, ?_⟩
      · intro x; exfalso; omega
      · intro x; exfalso; omega
      · intro x; exfalso; omega
      · omega
    · refine ⟨fun _ x => absurd x9 x, ?_, ?_, ?_, ?_⟩
      · intro x; exfalso; omega
      · intro x; exfalso; omega
      · intro x; exfalso; omega
      · omega
theorem tk_f3 {n : Int} {c : Nat → Int} {a v p e : Int} (h : tk_T n c a 3 v p e) : 1 ≤ v ∧ v ≤ 1073741823 := by
  obtain ⟨h1, h2⟩ := h
  rcases h2 with ⟨x1, x2⟩ | ⟨x1, x2⟩
  · exact absurd x2 (by decide)
  · unfold tx_cap tx_dig tx_own at x2
    rcases x2 with ⟨x3, x4, -⟩ | ⟨x3, x4, -⟩ | ⟨x3, x4, -⟩ | ⟨x3, q, x5, x6⟩ | ⟨x3, x4⟩ | ⟨x3, x4, -⟩ | ⟨-, -, -, -, -, -, x9⟩
    · exact absurd x4 (by decide)
    · exact absurd x4 (by decide)
    · exact absurd x4 (by decide)
    · rcases x6 with ⟨u1, u2, u3, u4, u5, u6, u7⟩ | ⟨u1, u2⟩
      · have lo : ∀ j, p + 1 ≤ j → j < q → tx_low (c j.toNat) := fun j j0 j1 => (x5.2.1 j j0 j1).2
        obtain ⟨m, hm⟩ : ∃ m : Nat, (q - (p + 1)).toNat = m + 1 := ⟨(q - (p + 1)).toNat - 1, by omega⟩
        rw [hm] at u6
        have b := tx_code_b (c := c) m (p + 1 + 1) (fun j j0 j1 => lo j (by omega) (by omega))
        have b1 := lo (p + 1) (Int.le_refl _) u1
        have e6 : v = (c (p + 1).toNat - 96) + 32 * tx_code c (p + 1 + 1) m := u6
        obtain ⟨b2, b3⟩ := b1
        have hm4 : m = 0 ∨ m = 1 ∨ m = 2 ∨ m = 3 ∨ m = 4 := by omega
        obtain ⟨b4, b5⟩ := b
        rcases hm4 with rfl | rfl | rfl | rfl | rfl
        · have b6 : tx_code c (p + 1 + 1) 0 < 1 := b5
          omega
        · have b6 : tx_code c (p + 1 + 1) 1 < 32 := b5
          omega
        · have b6 : tx_code c (p + 1 + 1) 2 < 1024 := b5
          omega
        · have b6 : tx_code c (p + 1 + 1) 3 < 32768 := b5
          omega
        · have b6 : tx_code c (p + 1 + 1) 4 < 1048576 := b5
          omega
      · exact absurd u2 (by decide)
    · rcases x4 with ⟨-, -, u3, -⟩ | ⟨-, u2⟩
      · exact absurd u3 (by decide)
      · exact absurd u2 (by decide)
    · exfalso; omega
    · exact absurd x9 (by decide)
/-- behind the number that a part is: + and a digit, or nothing -/
def fp_R (n : Int) (c : Nat → Int) (g1 : wk_g) (e : Int) (g' : wk_g) (a' : Int) : Prop := ∃ t2 v2 p2 e2, tk_T n c e t2 v2 p2 e2 ∧ ((t2 ≠ 43 ∧ g' = g1 ∧ a' = e) ∨ (t2 = 43 ∧ ∃ v3 p3, tk_T n c e2 5 v3 p3 a' ∧ g' = rf_word g1 (g1 0 0 - 1) v3))
def fp_N (n : Int) (c : Nat → Int) (e p3 : Int) : Prop := ∃ v2 p2 e2 t3 v3 e3, tk_T n c e 43 v2 p2 e2 ∧ tk_T n c e2 t3 v3 p3 e3 ∧ t3 ≠ 5
/-- rows, where the next token begins, whether a part is due, may be repeated, may be paired -/
abbrev ft_X : Type := wk_g × Int × Int × Int × Int
def ft_p (g : wk_g) : Int := if g 151 (g 0 5).toNat = 0 then 1 else 0
def ft_P (n : Int) (c : Nat → Int) (x : ft_X) (t v p e : Int) (y : ft_X) : Prop := ¬ rp_N x.1 t v ∧ ∃ g1, rp_R x.1 t v p g1 ∧ ((t = 40 ∧ y = (g1, e, 1, 0, 0)) ∨ (t ≠ 40 ∧ ∃ g2 a2, ((t = 1 ∧ so_r v = 1) → fp_R n c g1 e g2 a2) ∧ (¬ (t = 1 ∧ so_r v = 1) → g2 = g1 ∧ a2 = e) ∧ y = (g2, a2, 0, 1, ft_p x.1)))
def ft_M (x : ft_X) (t p e : Int) (y : ft_X) : Prop :=
  ((t = 42 ∨ t = 63) ∧ x.2.2.2.1 ≠ 0 ∧ y = (rf_wrap x.1 (x.1 150 (x.1 0 5).toNat) (if t = 42 then 1 else 2) p, e, 0, 0, x.2.2.2.2)) ∨
  (t = 126 ∧ x.2.2.2.2 ≠ 0 ∧ y = (rf_swap x.1, e, 1, 0, 0)) ∨
  (t = 124 ∧ x.1 130 (x.1 146 (x.1 0 5).toNat).toNat ≠ 6 ∧ y = (rf_beg x.1 p, e, 1, x.2.2.2.1, x.2.2.2.2)) ∨
  (t = 41 ∧ 0 < x.1 0 5 ∧ y = (rf_put (rf_lvl x.1 (x.1 0 5 - 1)) (x.1 148 (x.1 0 5).toNat), e, 0, 1, ft_p (rf_lvl x.1 (x.1 0 5 - 1))))
/-- a turn -/
def ft_T (n : Int) (c : Nat → Int) (x y : ft_X) : Prop := ∃ t v p e, tk_T n c x.2.1 t v p e ∧ ((ip_t t v ∧ ft_P n c x t v p e y) ∨ (¬ ip_t t v ∧ x.2.2.1 = 0 ∧ ft_M x t p e y))
/-- a fault -/
def ft_F (n : Int) (c : Nat → Int) (x : ft_X) (f : Int) : Prop := ∃ t v p e, tk_T n c x.2.1 t v p e ∧ (
  (ip_t t v ∧ rp_N x.1 t v ∧ f = 3 + 16 * p) ∨
  (ip_t t v ∧ ¬ rp_N x.1 t v ∧ (t = 1 ∧ so_r v = 1) ∧ ∃ p3, fp_N n c e p3 ∧ f = 1 + 16 * p3) ∨
  (¬ ip_t t v ∧ x.2.2.1 ≠ 0 ∧ f = 1 + 16 * p) ∨
  (¬ ip_t t v ∧ x.2.2.1 = 0 ∧ t = 124 ∧ x.1 130 (x.1 146 (x.1 0 5).toNat).toNat = 6 ∧ f = 3 + 16 * p) ∨
  (¬ ip_t t v ∧ x.2.2.1 = 0 ∧ ¬ ((t = 42 ∨ t = 63) ∧ x.2.2.2.1 ≠ 0) ∧ ¬ (t = 126 ∧ x.2.2.2.2 ≠ 0) ∧ t ≠ 124 ∧ ¬ (t = 41 ∧ 0 < x.1 0 5) ∧ ¬ (t = 59 ∧ x.1 0 5 ≤ 0) ∧ f = 1 + 16 * p))
/-- the end of a rule -/
def ft_E (n : Int) (c : Nat → Int) (x : ft_X) (a : Int) : Prop := ∃ v p, tk_T n c x.2.1 59 v p a ∧ x.2.2.1 = 0 ∧ x.1 0 5 ≤ 0
def ft_Tr (n : Int) (c : Nat → Int) : Nat → ft_X → ft_X → Prop
  | 0, x, y => x = y
  | k + 1, x, y => ∃ z, ft_T n c x z ∧ ft_Tr n c k z y
section FTU
variable {n : Int} {c : Nat → Int} {x y y' : ft_X} {f f' a a' : Int}
theorem ip_ne {t v : Int} (h : ip_t t v) : t ≠ 0 ∧ t ≠ 6 := by unfold ip_t at h; omega
theorem ip_59 {v : Int} : ¬ ip_t 59 v := fun h => by unfold ip_t at h; omega
theorem fp_u {g1 g2 g3 : wk_g} {e a2 a3 : Int} (h : fp_R n c g1 e g2 a2) (h' : fp_R n c g1 e g3 a3) : g2 = g3 ∧ a2 = a3 := by
  obtain ⟨t, v, p, e2, k1, k2⟩ := h
  obtain ⟨t', v', p', e2', k1', k2'⟩ := h'
  obtain ⟨u1, u2, u3⟩ := tk_u k1 k1'
  rcases k2 with ⟨x1, x2, x3⟩ | ⟨x1, w, q, x2, x3⟩
  · rcases k2' with ⟨y1, y2, y3⟩ | ⟨y1, -⟩
    · exact ⟨x2.trans y2.symm, x3.trans y3.symm⟩
    · omega
  · rcases k2' with ⟨y1, -⟩ | ⟨y1, w', q', y2, y3⟩
    · omega
    · obtain ⟨u4, u5⟩ := u3 (by omega) (by omega)
      subst u5
      obtain ⟨-, -, w3⟩ := tk_u x2 y2
      obtain ⟨w4, w5⟩ := w3 (by decide) (by decide)
      rw [w4] at x3
      exact ⟨x3.trans y3.symm, w5⟩
theorem fp_n {g1 g2 : wk_g} {e a2 p3 : Int} (h : fp_R n c g1 e g2 a2) (h' : fp_N n c e p3) : False := by
  obtain ⟨t, v, p, e2, k1, k2⟩ := h
  obtain ⟨v', p', e2', t3, v3, e3, k1', k2', k3'⟩ := h'
  obtain ⟨u1, u2, u3⟩ := tk_u k1 k1'
  rcases k2 with ⟨x1, -⟩ | ⟨x1, w, q, x2, x3⟩
  · omega
  · obtain ⟨u4, u5⟩ := u3 (by omega) (by omega)
    subst u5
    exact k3' (tk_u x2 k2').1.symm
theorem fp_nu {e p3 p4 : Int} (h : fp_N n c e p3) (h' : fp_N n c e p4) : p3 = p4 := by
  obtain ⟨v, p, e2, t3, v3, e3, k1, k2, k3⟩ := h
  obtain ⟨v', p', e2', t3', v3', e3', k1', k2', k3'⟩ := h'
  obtain ⟨u4, u5⟩ := (tk_u k1 k1').2.2 (by decide) (by decide)
  subst u5
  exact (tk_u k2 k2').2.1
theorem ft_Mu {t p e : Int} (h : ft_M x t p e y) (h' : ft_M x t p e y') : y = y' := by
  rcases h with ⟨x1, x2, x3⟩ | ⟨x1, x2, x3⟩ | ⟨x1, x2, x3⟩ | ⟨x1, x2, x3⟩ <;> rcases h' with ⟨y1, y2, y3⟩ | ⟨y1, y2, y3⟩ | ⟨y1, y2, y3⟩ | ⟨y1, y2, y3⟩ <;> first | exact x3.trans y3.symm | (exfalso; omega)
theorem ft_Mn {t p e : Int} (h : ft_M x t p e y) : t ≠ 0 ∧ t ≠ 6 ∧ t ≠ 59 := by
  rcases h with ⟨x1, -⟩ | ⟨x1, -⟩ | ⟨x1, -⟩ | ⟨x1, -⟩ <;> omega
theorem ft_u (h : ft_T n c x y) (h' : ft_T n c x y') : y = y' := by
  obtain ⟨t, v, p, e, k1, k2⟩ := h
  obtain ⟨t', v', p', e', k1', k2'⟩ := h'
  obtain ⟨u1, u2, u3⟩ := tk_u k1 k1'
  subst u1
  subst u2
  have nn : t ≠ 0 ∧ t ≠ 6 := by
    rcases k2 with ⟨x1, -⟩ | ⟨-, -, x3⟩
    · exact ip_ne x1
    · have := ft_Mn x3
      omega
  obtain ⟨u4, u5⟩ := u3 nn.1 nn.2
  subst u4
  subst u5
  rcases k2 with ⟨x1, x2, g1, x3, x4⟩ | ⟨x1, x2, x3⟩
  · rcases k2' with ⟨y1, y2, g1', y3, y4⟩ | ⟨y1, -⟩
    · have := rp_u x3 y3
      subst this
      rcases x4 with ⟨z1, z2⟩ | ⟨z1, g2, a2, z2, z3, z4⟩
      · rcases y4 with ⟨w1, w2⟩ | ⟨w1, -⟩
        · exact z2.trans w2.symm
        · exact absurd z1 w1
      · rcases y4 with ⟨w1, -⟩ | ⟨w1, g2', a2', w2, w3, w4⟩
        · exact absurd w1 z1
        · by_cases cn : t = 1 ∧ so_r v = 1
          · obtain ⟨s1, s2⟩ := fp_u (z2 cn) (w2 cn)
            rw [z4, w4, s1, s2]
          · obtain ⟨s1, s2⟩ := z3 cn
            obtain ⟨s3, s4⟩ := w3 cn
            rw [z4, w4, s1, s2, s3, s4]
    · exact absurd x1 y1
  · rcases k2' with ⟨y1, -⟩ | ⟨y1, y2, y3⟩
    · exact absurd y1 x1
    · exact ft_Mu x3 y3
theorem ft_TE (h : ft_T n c x y) (h' : ft_E n c x a) : False := by
  obtain ⟨t, v, p, e, k1, k2⟩ := h
  obtain ⟨v', p', k1', k2', k3'⟩ := h'
  have e1 := (tk_u k1 k1').1
  subst e1
  rcases k2 with ⟨x1, -⟩ | ⟨-, -, x3⟩
  · exact ip_59 x1
  · exact (ft_Mn x3).2.2 rfl
theorem ft_TF (h : ft_T n c x y) (h' : ft_F n c x f) : False := by
  obtain ⟨t, v, p, e, k1, k2⟩ := h
  obtain ⟨t', v', p', e', k1', k2'⟩ := h'
  obtain ⟨u1, u2, u3⟩ := tk_u k1 k1'
  subst u1
  subst u2
  have nn : t ≠ 0 ∧ t ≠ 6 := by
    rcases k2 with ⟨x1, -⟩ | ⟨-, -, x3⟩
    · exact ip_ne x1
    · have := ft_Mn x3
      omega
  obtain ⟨u4, u5⟩ := u3 nn.1 nn.2
  subst u4
  subst u5
  rcases k2 with ⟨x1, x2, g1, x3, x4⟩ | ⟨x1, x2, x3⟩
  · rcases k2' with ⟨-, y2, -⟩ | ⟨-, -, y3, p3, y4, -⟩ | ⟨y1, -⟩ | ⟨y1, -⟩ | ⟨y1, -⟩
    · exact x2 y2
    · rcases x4 with ⟨z1, -⟩ | ⟨z1, g2, a2, z2, z3, z4⟩
      · omega
      · exact fp_n (z2 y3) y4
    · exact y1 x1
    · exact y1 x1
    · exact y1 x1
  · rcases k2' with ⟨y1, -⟩ | ⟨y1, -⟩ | ⟨-, y2, -⟩ | ⟨-, -, y3, y4, -⟩ | ⟨-, -, y3, y4, y5, y6, -⟩
    · exact x1 y1
    · exact x1 y1
    · exact y2 x2
    · rcases x3 with ⟨w1, -⟩ | ⟨w1, -⟩ | ⟨w1, w2, -⟩ | ⟨w1, -⟩
      · omega
      · omega
      · exact w2 y4
      · omega
    · rcases x3 with ⟨w1, w2, -⟩ | ⟨w1, w2, -⟩ | ⟨w1, w2, -⟩ | ⟨w1, w2, -⟩
      · exact y3 ⟨w1, w2⟩
      · exact y4 ⟨w1, w2⟩
      · exact y5 w1
      · exact y6 ⟨w1, w2⟩
theorem ft_EF (h : ft_E n c x a) (h' : ft_F n c x f) : False := by
  obtain ⟨v, p, k1, k2, k3⟩ := h
  obtain ⟨t', v', p', e', k1', k2'⟩ := h'
  have e1 := (tk_u k1 k1').1
  subst e1
  rcases k2' with ⟨y1, -⟩ | ⟨y1, -⟩ | ⟨-, y2, -⟩ | ⟨-, -, y3, -⟩ | ⟨-, -, -, -, -, -, y7, -⟩
  · exact ip_59 y1
  · exact ip_59 y1
  · exact y2 k2
  · exact absurd y3 (by decide)
  · exact y7 ⟨rfl, k3⟩
theorem ft_Eu (h : ft_E n c x a) (h' : ft_E n c x a') : a = a' := by
  obtain ⟨v, p, k1, k2, k3⟩ := h
  obtain ⟨v', p', k1', k2', k3'⟩ := h'
  exact ((tk_u k1 k1').2.2 (by decide) (by decide)).2
theorem ft_Fu (h : ft_F n c x f) (h' : ft_F n c x f') : f = f' := by
  obtain ⟨t, v, p, e, k1, k2⟩ := h
  obtain ⟨t', v', p', e', k1', k2'⟩ := h'
  obtain ⟨u1, u2, u3⟩ := tk_u k1 k1'
  subst u1
  subst u2
  by_cases ci : ip_t t v
  · obtain ⟨n0, n6⟩ := ip_ne ci
    obtain ⟨u4, u5⟩ := u3 n0 n6
    subst u4
    subst u5
    rcases k2 with ⟨-, x2, x3⟩ | ⟨-, x2, x3, p3, x4, x5⟩ | ⟨x1, -⟩ | ⟨x1, -⟩ | ⟨x1, -⟩
    · rcases k2' with ⟨-, y2, y3⟩ | ⟨-, y2, -⟩ | ⟨y1, -⟩ | ⟨y1, -⟩ | ⟨y1, -⟩
      · omega
      · exact absurd x2 y2
      all_goals exact absurd ci y1
    · rcases k2' with ⟨-, y2, y3⟩ | ⟨-, y2, y3, p4, y4, y5⟩ | ⟨y1, -⟩ | ⟨y1, -⟩ | ⟨y1, -⟩
      · exact absurd y2 x2
      · have := fp_nu x4 y4
        omega
      all_goals exact absurd ci y1
    all_goals exact absurd ci x1
  · have ci' : ¬ ip_t t v' := fun z => by
      obtain ⟨n0, n6⟩ := ip_ne z
      obtain ⟨u4, -⟩ := u3 n0 n6
      rw [← u4] at z
      exact ci z
    rcases k2 with ⟨x1, -⟩ | ⟨x1, -⟩ | ⟨-, x2, x3⟩ | ⟨-, x2, x3, x4, x5⟩ | ⟨-, x2, x3, x4, x5, x6, x7, x8⟩
    · exact absurd x1 ci
    · exact absurd x1 ci
    all_goals
      rcases k2' with ⟨y1, -⟩ | ⟨y1, -⟩ | ⟨-, y2, y3⟩ | ⟨-, y2, y3, y4, y5⟩ | ⟨-, y2, y3, y4, y5, y6, y7, y8⟩
      · exact absurd y1 ci'
      · exact absurd y1 ci'
      all_goals first | omega | (exfalso; contradiction)
theorem ft_snoc {z : ft_X} : ∀ (k : Nat) (x : ft_X), ft_Tr n c k x y → ft_T n c y z → ft_Tr n c (k + 1) x z := by
  intro k
  induction k with
  | zero => intro x h h'; exact ⟨z, by have e : x = y := h; rw [e]; exact h', rfl⟩
  | succ k ih => intro x h h'; obtain ⟨w, h1, h2⟩ := h; exact ⟨w, h1, ih w h2 h'⟩
theorem ft_app {z : ft_X} {j : Nat} (h' : ft_Tr n c j y z) : ∀ (k : Nat) (x : ft_X), ft_Tr n c k x y → ∃ i, ft_Tr n c i x z := by
  intro k
  induction k with
  | zero => intro x h; exact ⟨j, by have e : x = y := h; rw [e]; exact h'⟩
  | succ k ih => intro x h; obtain ⟨w, h1, h2⟩ := h; obtain ⟨i, h3⟩ := ih w h2; exact ⟨i + 1, w, h1, h3⟩
/-- it goes to its end; it goes to a fault -/
def ft_D (n : Int) (c : Nat → Int) (x y : ft_X) (a : Int) : Prop := ∃ k, ft_Tr n c k x y ∧ ft_E n c y a
def ft_B (n : Int) (c : Nat → Int) (x : ft_X) (f : Int) : Prop := ∃ k y, ft_Tr n c k x y ∧ ft_F n c y f
theorem ft_pre {z : ft_X} (hd : ft_E n c y a ∨ ft_F n c y f) : ∀ (k : Nat) (x : ft_X), ft_Tr n c k x y → ∀ k', ft_Tr n c k' x z → ∃ j, ft_Tr n c j z y := by
  intro k
  induction k with
  | zero =>
    intro x h k' h'
    cases k' with
    | zero => exact ⟨0, by have e : x = y := h; have e' : x = z := h'; exact e'.symm.trans e⟩
    | succ k' =>
      obtain ⟨w, h1, -⟩ := h'
      have e : x = y := h
      rw [e] at h1
      rcases hd with q | q
      · exact (ft_TE h1 q).elim
      · exact (ft_TF h1 q).elim
  | succ k ih =>
    intro x h k' h'
    cases k' with
    | zero => exact ⟨k + 1, by have e : x = z := h'; rw [← e]; exact h⟩
    | succ k' =>
      obtain ⟨w, h1, h2⟩ := h
      obtain ⟨w', h1', h2'⟩ := h'
      have e := ft_u h1 h1'
      rw [← e] at h2'
      exact ih w h2 k' h2'
theorem ft_end0 {z : ft_X} {f' : Int} {j : Nat} (h : ft_Tr n c j z y) (hz : ft_E n c z a' ∨ ft_F n c z f') : z = y := by
  cases j with
  | zero => exact h
  | succ j =>
    obtain ⟨w, h1, -⟩ := h
    rcases hz with q | q
    · exact (ft_TE h1 q).elim
    · exact (ft_TF h1 q).elim
theorem ft_DD (h : ft_D n c x y a) (h' : ft_D n c x y' a') : y = y' ∧ a = a' := by
  obtain ⟨k, h1, h2⟩ := h
  obtain ⟨k', h1', h2'⟩ := h'
  obtain ⟨j, h3⟩ := ft_pre (f := 0) (Or.inl h2) k x h1 k' h1'
  have e := ft_end0 (f' := 0) h3 (Or.inl h2')
  rw [e] at h2'
  exact ⟨e.symm, ft_Eu h2 h2'⟩
theorem ft_DB (h : ft_D n c x y a) (h' : ft_B n c x f) : False := by
  obtain ⟨k, h1, h2⟩ := h
  obtain ⟨k', y', h1', h2'⟩ := h'
  obtain ⟨j, h3⟩ := ft_pre (f := 0) (Or.inl h2) k x h1 k' h1'
  have e := ft_end0 (a' := 0) h3 (Or.inr h2')
  rw [e] at h2'
  exact ft_EF h2 h2'
theorem ft_BB (h : ft_B n c x f) (h' : ft_B n c x f') : f = f' := by
  obtain ⟨k, y, h1, h2⟩ := h
  obtain ⟨k', y', h1', h2'⟩ := h'
  obtain ⟨j, h3⟩ := ft_pre (a := 0) (Or.inr h2) k x h1 k' h1'
  have e := ft_end0 (a' := 0) h3 (Or.inr h2')
  rw [e] at h2'
  exact ft_Fu h2 h2'
end FTU
/-! the reference's plus and form, exactly -/
theorem lc_okf {h h' : sm_H} {wr : List (Nat × Nat)} (hl : lc_ok h) (hS : ab_Sh sx_sk h) (hF : ab_Fr wr h h') (hw : (ab_in wr 13962 || ab_in wr 14976 || ab_in wr 15104) = false) : lc_ok h' := fun k hk => by
  simp only [Bool.or_eq_false_iff] at hw
  rw [me_f (c := 13962) hF hS rfl hw.1.1] at hk
  rw [me_a (k := 117) hF hS rfl hw.1.2, me_b (k := 118) hF hS rfl hw.2]
  exact hl k hk
theorem tx_32 {v : Int64} (v0 : 0 ≤ v.toInt) (v1 : v.toInt ≤ 100) : v.toInt32.toInt = v.toInt := by
  rw [Int64.toInt_toInt32, Int.bmod_eq_of_le (by omega) (by omega)]
def pl_X (g : wk_g) (h0 : sm_H) (_ : Option mi_V) (h' : sm_H) : Prop :=
  (mi_f h' 13960 = 0 ∧ lc_ok h' ∧ ∃ g', fp_R (mi_f h0 13953) (mi_a h0 110) g (mi_f h0 14000) g' (mi_f h' 14000) ∧ RQ g' h') ∨
  (∃ p3, fp_N (mi_f h0 13953) (mi_a h0 110) (mi_f h0 14000) p3 ∧ mi_f h' 13960 = 1 + 16 * p3)
section PLX
variable {d : Nat} {h h0 h' : sm_H} {g : wk_g}
theorem me_plusx (hS0 : ab_Sh sx_sk h0) (hq : RQ g h0) (hl : lc_ok h0) (hf : mi_f h0 13960 = 0) (ha : mi_f h0 14000 ≤ mi_f h0 13953) (hU : 1 ≤ mi_f h0 13963) : me_E (d + 9) 193 0 [some (.inr (.inr 109)), none] [] h0 (pl_X g h0) := by
  have b0 := me_fb (c := 14000) hS0 rfl
  have bn := me_fb (c := 13953) hS0 rfl
  have ok : mi_in (mi_f h0 14000) := ⟨by omega, by omega⟩
  refine mt_plA hS0 (fun h1 g1 g2 => ?_)
  have e := me_nil g2
  subst e
  refine ⟨_, me_scanx (d := d + 6) hS0 ha, fun w h2 ow hq2 => ?_⟩
  obtain ⟨rfl, q1, q2, q3⟩ := hq2
  have ef2 : mi_f h2 13960 = 0 := (me_f (c := 13960) q2 hS0 rfl rfl).trans hf
  have en2 : mi_f h2 13953 = mi_f h1 13953 := me_f (c := 13953) q2 hS0 rfl rfl
  have ec2 : mi_a h2 110 = mi_a h1 110 := funext (fun i => me_a (k := 110) q2 hS0 rfl rfl)
  have Rq2 := RQ_same hq hS0 q2 (by decide)
  have L2 := lc_okf hl hS0 q2 (by decide)
  have k3 := tk_f ha q3
  refine mt_plB q1 ok ?_ ?_
  · intro b c h3 g1 g2
    have e := me_nil g2
    subst e
    have e3 := k3.2.2.1 (by omega) (by omega)
    refine ⟨_, me_scanx (d := d + 6) q1 (by omega), fun w h4 ow hq4 => ?_⟩
    obtain ⟨rfl, r1, r2, r3⟩ := hq4
    have ef4 : mi_f h4 13960 = 0 := (me_f (c := 13960) r2 q1 rfl rfl).trans ef2
    rw [en2, ec2] at r3
    rw [c] at q3
    have Rq4 := RQ_same Rq2 q1 r2 (by decide)
    have L4 := lc_okf L2 q1 r2 (by decide)
    have k4 := tk_f (by omega) r3
    have gU : g 0 0 = mi_f h4 13963 := Rq4.1.1
    have bU := me_fb (c := 13963) r1 rfl
    have eU : mi_f h4 13963 = mi_f h1 13963 := (me_f (c := 13963) r2 q1 rfl rfl).trans (me_f (c := 13963) q2 hS0 rfl rfl)
    refine mt_plC r1 ok ?_ ?_
    · intro b c3 h5 g1 g2
      have e := me_nil g2
      subst e
      have p0 := me_fb (c := 14002) r1 rfl
      refine ⟨_, me_blamex (d := d + 8) r1 (by decide) (by decide) (by omega) (by omega) ef4, fun w h6 ow hq6 => ?_⟩
      obtain ⟨rfl, t1, t2, t3⟩ := hq6
      refine mt_plD t1 ok (fun h7 g1 g2 => ?_)
      have e := me_nil g2
      subst e
      exact Or.inr ⟨mi_f h5 14002, ⟨_, _, _, _, _, _, q3, r3, c3⟩, t3⟩
    · intro b b2 c3
      refine ⟨⟨⟨by omega, by omega⟩, ⟨by omega, by omega⟩⟩, fun h5 g1 g2 g3 => ?_⟩
      have v9 := k4.2.2.2.2.2.1 c3
      rw [c3] at r3
      refine Or.inl ⟨(me_f (c := 13960) g3 r1 rfl rfl).trans ef4, lc_okf L4 r1 g3 (by decide), rf_word g (g 0 0 - 1) (mx_l h4 14004).toInt, ⟨_, _, _, _, q3, Or.inr ⟨rfl, _, mi_f h4 14002, ?_, rfl⟩⟩, RQ_word Rq4 r1 g3 (fun i => ?_)⟩
      · rw [me_f (c := 14000) g3 r1 rfl rfl]
        exact r3
      · rw [g2, gU, tx_32 v9.1 (by omega)]
  · intro b c
    refine ⟨⟨by omega, by omega⟩, fun h3 g1 g2 g3 => ?_⟩
    exact Or.inl ⟨(me_f (c := 13960) g3 q1 rfl rfl).trans ef2, lc_okf L2 q1 g3 (by decide), g, ⟨_, _, _, _, q3, Or.inl ⟨c, rfl, g2⟩⟩, RQ_same Rq2 q1 g3 (by decide)⟩
end PLX
def fx_G (x0 : ft_X) (h0 h : sm_H) (zd zw zp zt : Int) : Prop := mi_f h 14000 ≤ mi_f h0 13953 ∧ zt ≤ mi_f h 14000 ∧ lc_ok h ∧ ∃ g k, RQ g h ∧ ft_Tr (mi_f h0 13953) (mi_a h0 110) k x0 (g, mi_f h 14000, zd, zw, zp)
def fx_D (x0 : ft_X) (h0 h : sm_H) : Prop := mi_f h 14000 ≤ mi_f h0 13953 ∧ lc_ok h ∧ ∃ y, ft_D (mi_f h0 13953) (mi_a h0 110) x0 y (mi_f h 14000) ∧ RQ y.1 h
def fx_B (x0 : ft_X) (h0 h : sm_H) : Prop := ft_B (mi_f h0 13953) (mi_a h0 110) x0 (mi_f h 13960)
/-- at the loop's head -/
def fx_H (x0 : ft_X) (h0 h : sm_H) (zd zw zp zm zt : Int) : Prop := fm_H h0 h zd zw zp ∧ (mi_f h 13960 = 0 → zm ≠ 0 → fx_G x0 h0 h zd zw zp zt) ∧ (mi_f h 13960 = 0 → zm = 0 → fx_D x0 h0 h) ∧ (mi_f h 13960 ≠ 0 → fx_B x0 h0 h)
def fx_Q (x0 : ft_X) (h0 : sm_H) (w : Option mi_V) (h' : sm_H) : Prop := fm_Q h0 w h' ∧ (mi_f h' 13960 = 0 → fx_D x0 h0 h') ∧ (mi_f h' 13960 ≠ 0 → fx_B x0 h0 h')
/-- behind a scan -/
def fx_S (x0 : ft_X) (h0 h : sm_H) (zd zw zp zt : Int) : Prop := fm_S h0 h zd zw zp ∧ lc_ok h ∧ ∃ g k a, zt ≤ a ∧ a ≤ mi_f h0 13953 ∧ RQ g h ∧ ft_Tr (mi_f h0 13953) (mi_a h0 110) k x0 (g, a, zd, zw, zp) ∧ tk_T (mi_f h0 13953) (mi_a h0 110) a (mi_f h 14001) (mx_l h 14004).toInt (mi_f h 14002) (mi_f h 14000)
def fx_C (d : Nat) (x0 : ft_X) (h0 : sm_H) (zt : Int) : Prop := ∀ (zd zw zp zm : Int) (q6 q7 q8 : Option mi_V) (h : sm_H), mi_in zd → mi_in zw → mi_in zp → mi_in zm → (∀ v, q6 = some v → mi_ok v) → (∀ v, q7 = some v → mi_ok v) → (∀ v, q8 = some v → mi_ok v) → fx_H x0 h0 h zd zw zp zm (zt + 1) → me_E (d + 12) 186 22 [some (.inr (.inr 109)), some (.inl zd), some (.inl zw), some (.inl zp), some (.inl zm), some (.inl (zt + 1)), q6, q7, q8] [] h (fx_Q x0 h0)
section FXP
variable {d : Nat} {x0 : ft_X} {h0 h h1 : sm_H} {zd zw zp zm zt zb : Int} {q7 q8 : Option mi_V}
theorem fx_run (hm : zm ≠ 0) (hH : fm_H h0 h zd zw zp) (f0 : mi_f h 13960 = 0) (hG : fx_G x0 h0 h zd zw zp zt) : fx_H x0 h0 h zd zw zp zm zt := ⟨hH, fun _ _ => hG, fun _ z => absurd z hm, fun z => absurd f0 z⟩
theorem fx_blm (hH : fm_H h0 h zd zw zp) (f0 : mi_f h 13960 ≠ 0) (hB : fx_B x0 h0 h) : fx_H x0 h0 h zd zw zp zm zt := ⟨hH, fun z => absurd z f0, fun z => absurd z f0, fun _ => hB⟩
/-- a fault told by ft_F -/
theorem fx_flt (hs : fx_S x0 h0 h zd zw zp zt) {f : Int} (e : mi_f h1 13960 = f) (hF : ∀ g a, RQ g h → tk_T (mi_f h0 13953) (mi_a h0 110) a (mi_f h 14001) (mx_l h 14004).toInt (mi_f h 14002) (mi_f h 14000) → ft_F (mi_f h0 13953) (mi_a h0 110) (g, a, zd, zw, zp) f) : fx_B x0 h0 h1 := by
  obtain ⟨-, -, g, k, a, -, -, r1, r2, r3⟩ := hs
  unfold fx_B
  rw [e]
  exact ⟨k, _, r2, hF g a r1 r3⟩
theorem x126 {zg zn : Int} (hC : fx_C d x0 h0 zt) (t0 : mi_in (zt + 1)) (ot : mi_in zt) (od : mi_in zd) (ow : mi_in zw) (op : mi_in zp) (om : mi_in zm) (ob : mi_in zb) (og : mi_in zg) (on : mi_in zn) (hm : zm ≠ 0) (hg : zg = 0 ∨ zg = 1) (hS : ab_Sh sx_sk h) (hF : ab_Fr fm_W h0 h) (hf : 0 ≤ mi_f h 13960) (hz : mi_f h 13960 = 0 → mi_f h 14000 ≤ 241 ∧ (zg ≠ 0 → ∃ Y z, rs_I h Y z 0) ∧ (zg = 0 → 0 ≤ mi_a h 150 (mi_f h 14003).toNat ∧ (zb = 0 → 0 ≤ mi_a h 149 (mi_f h 14003).toNat ∧ mi_a h 124 (mi_a h 149 (mi_f h 14003).toNat).toNat < 0) ∧ ∃ Y z, rs_I h Y z 1)) (hx : mi_f h 13960 = 0 → (zg = 1 → fx_G x0 h0 h 1 0 0 (zt + 1)) ∧ (zg = 0 → fx_G x0 h0 h 0 1 (if zb = 0 then 1 else 0) (zt + 1))) (hB : mi_f h 13960 ≠ 0 → fx_B x0 h0 h) : me_E (d + 12) 186 126 [some (.inr (.inr 109)), some (.inl zd), some (.inl zw), some (.inl zp), some (.inl zm), some (.inl zt), some (.inl zb), some (.inl zg), some (.inl zn)] [] h (fx_Q x0 h0) := by
  refine mt_fmJ hS od ow op om ot ob og on ?_ ?_ ?_
  · intro c
    refine ⟨t0, fun h1 g1 g2 => ?_⟩
    have e := me_nil g2
    subst e
    have z1 : zg = 1 := by omega
    refine hC zg 0 0 zm _ _ _ h1 og fm_in0 fm_in0 om (me_oi ob) (me_oi og) (me_oi on) ⟨⟨hS, hF, hf, fun x => ?_⟩, fun x _ => ?_, fun _ z => absurd z hm, hB⟩
    · obtain ⟨y1, y2, y3⟩ := hz x
      refine ⟨y1, fun x => absurd x c, ?_⟩
      unfold fm_q
      rw [if_neg c]
      exact y2 c
    · rw [z1]
      exact (hx x).1 z1
  · intro c cb
    refine ⟨t0, fun h1 g1 g2 => ?_⟩
    have e := me_nil g2
    subst e
    refine hC zg 1 0 zm _ _ _ h1 og fm_in1 fm_in0 om (me_oi ob) (me_oi og) (me_oi on) ⟨⟨hS, hF, hf, fun x => ?_⟩, fun x _ => ?_, fun _ z => absurd z hm, hB⟩
    · obtain ⟨y1, y2, y3⟩ := hz x
      obtain ⟨y4, y5, y6⟩ := y3 c
      refine ⟨y1, fun _ => ⟨fun _ => y4, fun x => absurd rfl x⟩, ?_⟩
      unfold fm_q
      rw [if_pos c]
      exact y6
    · have := (hx x).2 c
      rw [if_neg cb] at this
      rw [c]
      exact this
  · intro c cb
    refine ⟨t0, fun h1 g1 g2 => ?_⟩
    have e := me_nil g2
    subst e
    refine hC zg 1 1 zm _ _ _ h1 og fm_in1 fm_in1 om (me_oi ob) (me_oi og) (me_oi on) ⟨⟨hS, hF, hf, fun x => ?_⟩, fun x _ => ?_, fun _ z => absurd z hm, hB⟩
    · obtain ⟨y1, y2, y3⟩ := hz x
      obtain ⟨y4, y5, y6⟩ := y3 c
      refine ⟨y1, fun _ => ⟨fun _ => y4, fun _ => y5 cb⟩, ?_⟩
      unfold fm_q
      rw [if_pos c]
      exact y6
    · have := (hx x).2 c
      rw [if_pos cb] at this
      rw [c]
      exact this
theorem x106 {zg zn : Int} (hS0 : ab_Sh sx_sk h0) (hC : fx_C d x0 h0 zt) (t0 : mi_in (zt + 1)) (ot : mi_in zt) (od : mi_in zd) (ow : mi_in zw) (op : mi_in zp) (om : mi_in zm) (ob : mi_in zb) (og : mi_in zg) (on : mi_in zn) (hm : zm ≠ 0) (hg : zg = 0 ∨ zg = 1) (hs : fx_S x0 h0 h zd zw zp zt) (hb : zb = mi_a h 151 (mi_f h 14003).toNat) (hip : ip_t (mi_f h 14001) (mx_l h 14004).toInt) (kg : zg ≠ 0 ↔ mi_f h 14001 = 40) (kn : zn ≠ 0 ↔ (mi_f h 14001 = 1 ∧ so_r (mx_l h 14004).toInt = 1)) : me_E (d + 12) 186 106 [some (.inr (.inr 109)), some (.inl zd), some (.inl zw), some (.inl zp), some (.inl zm), some (.inl zt), some (.inl zb), some (.inl zg), some (.inl zn)] [] h (fx_Q x0 h0) := by
  obtain ⟨⟨s1, s2, s3, s4, s5, Y, z, s6⟩, lk, g, k, a, za, an, rq, tr, tk⟩ := id hs
  obtain ⟨k0, k6⟩ := ip_ne hip
  refine mt_fmH s1 od ow op om ot ob og on (fun h1 g1 g2 => ?_)
  have e := me_nil g2
  subst e
  have at1 := s4.2.1 k0 k6
  have kk := tk_f an tk
  have ke := kk.2.2.1 k0 k6
  have pT : px_T h1 := ⟨hip, fun x => by rw [x] at tk; exact tk_f3 tk, fun x => by have := kk.2.2.2.2.1 x; omega⟩
  have pv : mi_f h1 14001 = 2 → (mx_l h1 14004).toInt32.toInt = (mx_l h1 14004).toInt := fun x => by
    have := kk.2.2.2.1 x
    exact tx_32 this.1 (by omega)
  have en1 : mi_f h1 13953 = mi_f h0 13953 := me_f (c := 13953) s2 hS0 rfl rfl
  have ec1 : mi_a h1 110 = mi_a h0 110 := funext (fun i => me_a (k := 110) s2 hS0 rfl rfl)
  refine ⟨_, (me_part (d := d + 2) ⟨s6, fm_q0, s1, s4, s3⟩).and (me_partx (d := d + 2) ⟨s6, fm_q0, s1, s4, s3⟩ rq pT lk pv), fun w h2 oww hq => ?_⟩
  obtain ⟨⟨rfl, p1, p2, p3, p4⟩, -, -, px⟩ := hq
  have F2 : ab_Fr fm_W h0 h2 := s2.trans (p2.wide (fun c hc => ab_swr_ok (by decide) hc))
  have e0 : mi_f h2 14000 = mi_f h1 14000 := me_f (c := 14000) p2 s1 rfl rfl
  have on1 : mi_f h2 13960 = 0 → mi_f h2 14000 ≤ 241 ∧ (zg ≠ 0 → ∃ Y z, rs_I h2 Y z 0) ∧ (zg = 0 → 0 ≤ mi_a h2 150 (mi_f h2 14003).toNat ∧ (zb = 0 → 0 ≤ mi_a h2 149 (mi_f h2 14003).toNat ∧ mi_a h2 124 (mi_a h2 149 (mi_f h2 14003).toNat).toNat < 0) ∧ ∃ Y z, rs_I h2 Y z 1) := fun x => by
    obtain ⟨y1, y2⟩ := p4 x
    refine ⟨by omega, fun c => y1 (kg.mp c), fun c => ?_⟩
    obtain ⟨v1, v2, v3, v4, v5⟩ := y2 (fun c2 => absurd c (kg.mpr c2))
    exact ⟨v2, fun c3 => v3 (by rw [← hb]; exact c3), v5⟩
  have pp : ft_p g = if zb = 0 then 1 else 0 := by
    unfold ft_p
    rw [hb, rq.1.2.2.2.2.2, rq.2.1 151 (by decide)]
  have bad : mi_f h2 13960 ≠ 0 → fx_B x0 h0 h2 := fun x => by
    rcases px with ⟨y1, y2⟩ | ⟨y1, y2, -⟩
    · unfold fx_B
      rw [y2]
      exact ⟨k, _, tr, _, _, _, _, tk, Or.inl ⟨hip, y1, rfl⟩⟩
    · exact absurd y2 x
  have good : mi_f h2 13960 = 0 → zn = 0 → (zg = 1 → fx_G x0 h0 h2 1 0 0 (zt + 1)) ∧ (zg = 0 → fx_G x0 h0 h2 0 1 (if zb = 0 then 1 else 0) (zt + 1)) := fun x xn => by
    rcases px with ⟨y1, y2⟩ | ⟨y1, y2, y3, g', y4, y5⟩
    · have := kk.1
      have b2 := me_fb (c := 14002) s1 rfl
      omega
    · have nn : ¬ (mi_f h1 14001 = 1 ∧ so_r (mx_l h1 14004).toInt = 1) := fun z => kn.mpr z xn
      refine ⟨fun z1 => ⟨by omega, by omega, y3, g', k + 1, y5, ?_⟩, fun z0 => ⟨by omega, by omega, y3, g', k + 1, y5, ?_⟩⟩
      · rw [e0]
        exact ft_snoc k x0 tr ⟨_, _, _, _, tk, Or.inl ⟨hip, y1, g', y4, Or.inl ⟨kg.mp (by omega), rfl⟩⟩⟩
      · rw [e0, ← pp]
        exact ft_snoc k x0 tr ⟨_, _, _, _, tk, Or.inl ⟨hip, y1, g', y4, Or.inr ⟨fun z => kg.mpr z z0, g', _, fun z => absurd z nn, fun _ => ⟨rfl, rfl⟩, rfl⟩⟩⟩
  refine mt_fmI p1 od ow op om ot ob og on ?_ ?_ ?_
  · intro c h3 g1 g2
    have e := me_nil g2
    subst e
    exact x126 hC t0 ot od ow op om ob og on hm hg p1 F2 p3 on1 (fun x => good x c) bad
  · intro b c c2 h3 g1 g2
    have e := me_nil g2
    subst e
    exact x126 hC t0 ot od ow op om ob og on hm hg p1 F2 p3 on1 (fun x => absurd x c2) bad
  · intro b c c2 h3 g1 g2
    have e := me_nil g2
    subst e
    have k1 := kn.mp c
    obtain ⟨-, y2⟩ := p4 c2
    obtain ⟨v1, v2, v3, v4, Y2, z2, v5⟩ := y2 (by omega)
    rcases px with ⟨y1, y2⟩ | ⟨w1, w2, w3, g', w4, w5⟩
    · have := kk.1
      have b2 := me_fb (c := 14002) s1 rfl
      omega
    have en3 : mi_f h3 13953 = mi_f h0 13953 := me_f (c := 13953) F2 hS0 rfl rfl
    have ec3 : mi_a h3 110 = mi_a h0 110 := funext (fun i => me_a (k := 110) F2 hS0 rfl rfl)
    refine ⟨_, (me_plus (d := d + 2) v5 p1 c2 (by omega) v1 (v4 k1.1)).and (me_plusx (d := d + 2) p1 w5 w3 c2 (by omega) v1), fun w h4 oww hq => ?_⟩
    obtain ⟨⟨rfl, r1, r2, r3, r4⟩, r5⟩ := hq
    unfold pl_X at r5
    rw [en3, ec3, e0] at r5
    have e3 : mi_f h4 14003 = mi_f h3 14003 := me_f (c := 14003) r2 p1 rfl rfl
    refine x126 hC t0 ot od ow op om ob og on hm hg r1 (F2.trans (r2.wide (fun c hc => ab_swr_ok (by decide) hc))) r3 (fun x => ?_) (fun x => ?_) (fun x => ?_)
    · obtain ⟨y1, y3⟩ := r4 x
      refine ⟨y1, fun c => by have := kg.mp c; omega, fun c => ⟨?_, fun c3 => ?_, Y2, z2, y3⟩⟩
      · rw [e3, me_a (k := 150) r2 p1 rfl rfl]
        exact v2
      · rw [e3, me_a (k := 149) r2 p1 rfl rfl, me_a (k := 124) r2 p1 rfl rfl]
        exact v3 (by rw [← hb]; exact c3)
    · rcases r5 with ⟨u1, u2, g2, u3, u4⟩ | ⟨p3, u1, u2⟩
      · have ab : mi_f h1 14000 ≤ mi_f h4 14000 ∧ mi_f h4 14000 ≤ mi_f h0 13953 := by
          obtain ⟨t2, v2, p2, e2, y1, y2⟩ := u3
          have m1 := tk_f (by omega) y1
          rcases y2 with ⟨-, -, y4⟩ | ⟨y3, v3, p3, y4, -⟩
          · omega
          · have m2 := m1.2.2.1 (by omega) (by omega)
            have m3 := tk_f (by omega) y4
            have m4 := m3.2.2.1 (by omega) (by omega)
            omega
        refine ⟨fun z1 => by have := kg.mp (by omega); omega, fun z0 => ⟨by omega, by omega, u2, g2, k + 1, u4, ?_⟩⟩
        rw [← pp]
        exact ft_snoc k x0 tr ⟨_, _, _, _, tk, Or.inl ⟨hip, w1, g', w4, Or.inr ⟨fun z => kg.mpr z z0, g2, _, fun _ => u3, fun z => absurd k1 z, rfl⟩⟩⟩
      · exfalso
        obtain ⟨v2, p2, e2, t3, v3, e3, y1, y2, y3⟩ := u1
        have m1 := tk_f (by omega) y1
        have m2 := m1.2.2.1 (by omega) (by omega)
        have m3 := tk_f (by omega) y2
        have b2 := me_fb (c := 14000) s1 rfl
        omega
    · rcases r5 with ⟨u1, -⟩ | ⟨p3, u1, u2⟩
      · exact absurd u1 x
      · unfold fx_B
        rw [u2]
        exact ⟨k, _, tr, _, _, _, _, tk, Or.inr (Or.inl ⟨hip, w1, k1, p3, u1, rfl⟩)⟩
theorem x424 {m : Int} {h1 : sm_H} (hC : fx_C d x0 h0 zt) (t0 : mi_in (zt + 1)) (ot : mi_in zt) (od : mi_in zd) (ow : mi_in zw) (op : mi_in zp) (om : mi_in m) (ob : mi_in zb) (o7 : (∀ v, q7 = some v → mi_ok v)) (o8 : (∀ v, q8 = some v → mi_ok v)) (hH : fx_H x0 h0 h1 zd zw zp m (zt + 1)) : me_E (d + 12) 186 424 [some (.inr (.inr 109)), some (.inl zd), some (.inl zw), some (.inl zp), some (.inl m), some (.inl zt), some (.inl zb), q7, q8] [] h1 (fx_Q x0 h0) := by
  refine mt_fmT hH.1.1 od ow op om ot ob o7 o8 ⟨t0, fun h2 g1 g2 => ?_⟩
  have e := me_nil g2
  subst e
  exact hC zd zw zp m _ _ _ h2 od ow op om (me_oi ob) o7 o8 hH
theorem x391 {a : Int} {h1 : sm_H} (hC : fx_C d x0 h0 zt) (t0 : mi_in (zt + 1)) (ot : mi_in zt) (od : mi_in zd) (ow : mi_in zw) (op : mi_in a) (om : mi_in zm) (ob : mi_in zb) (o7 : (∀ v, q7 = some v → mi_ok v)) (o8 : (∀ v, q8 = some v → mi_ok v)) (hH : fx_H x0 h0 h1 zd 1 a zm (zt + 1)) : me_E (d + 12) 186 391 [some (.inr (.inr 109)), some (.inl zd), some (.inl zw), some (.inl a), some (.inl zm), some (.inl zt), some (.inl zb), q7, q8] [] h1 (fx_Q x0 h0) := by
  refine mt_fmS hH.1.1 od ow op om ot ob o7 o8 ⟨t0, fun h2 g1 g2 => ?_⟩
  have e := me_nil g2
  subst e
  exact hC zd 1 a zm _ _ _ h2 od fm_in1 op om (me_oi ob) o7 o8 hH
theorem x330 (hS0 : ab_Sh sx_sk h0) (hC : fx_C d x0 h0 zt) (t0 : mi_in (zt + 1)) (ot : mi_in zt) (od : mi_in zd) (ow : mi_in zw) (op : mi_in zp) (om : mi_in zm) (ob : mi_in zb) (o7 : (∀ v, q7 = some v → mi_ok v)) (o8 : (∀ v, q8 = some v → mi_ok v)) (hm : zm ≠ 0) (hs : fx_S x0 h0 h zd zw zp zt) (hip : ¬ ip_t (mi_f h 14001) (mx_l h 14004).toInt) (hd : zd = 0) (n1 : ¬ ((mi_f h 14001 = 42 ∨ mi_f h 14001 = 63) ∧ zw ≠ 0)) (n2 : ¬ (mi_f h 14001 = 126 ∧ zp ≠ 0)) (n3 : mi_f h 14001 ≠ 124) : me_E (d + 12) 186 330 [some (.inr (.inr 109)), some (.inl zd), some (.inl zw), some (.inl zp), some (.inl zm), some (.inl zt), some (.inl zb), q7, q8] [] h (fx_Q x0 h0) := by
  obtain ⟨hs', lk, g, k, a, za, an, rq, tr, tk⟩ := id hs
  obtain ⟨s1, s2, s3, s4, s5, Y, z, s6⟩ := id hs'
  have kk := tk_f an tk
  have bl : ¬ (mi_f h 14001 = 41 ∧ 0 < mi_f h 14003) → ¬ (mi_f h 14001 = 59 ∧ mi_f h 14003 ≤ 0) → ∃ Q1, me_E (d + 11) 184 0 (mi_entry 3 [.inr (.inr 109), .inl 1, .inl (mi_f h 14002)]) [] h Q1 ∧ ∀ w h2, (∀ x, w = some x → mi_ok x) → Q1 w h2 → me_E (d + 12) 186 424 [some (.inr (.inr 109)), some (.inl zd), some (.inl zw), some (.inl zp), some (.inl 0), some (.inl zt), some (.inl zb), q7, q8] (mi_back w []) h2 (fx_Q x0 h0) := fun n4 n5 => by
    refine ⟨_, me_blamex (d := d + 11) s1 (by decide) (by decide) (by have := s4.1; omega) (by have := s4.1; omega) (by omega), fun w h2 oww hq => ?_⟩
    obtain ⟨rfl, t1, t2, t3⟩ := hq
    have p0 := s4.1
    refine x424 hC t0 ot od ow op fm_in0 ob o7 o8 (fx_blm (fm_bl hs' t1 t2 (by omega)) (by omega) (fx_flt hs t3 (fun g a r1 r3 => ⟨_, _, _, _, r3, Or.inr (Or.inr (Or.inr (Or.inr ⟨hip, hd, n1, n2, n3, ?_, ?_, rfl⟩)))⟩)))
    · show ¬ (mi_f h 14001 = 41 ∧ 0 < g 0 5)
      rw [r1.1.2.2.2.2.2]
      exact n4
    · show ¬ (mi_f h 14001 = 59 ∧ g 0 5 ≤ 0)
      rw [r1.1.2.2.2.2.2]
      exact n5
  have cl : ∀ {v : Int}, mi_in v → mi_f h 14001 = 41 → 0 < mi_f h 14003 → (v = if mi_a h 151 (mi_f h 14003 - 1).toNat = 0 then 1 else 0) → ((0 ≤ mi_f h 14003 ∧ mi_f h 14003 < 6) ∧ (-2147483648 ≤ mi_f h 14003 - 1 ∧ mi_f h 14003 - 1 ≤ 2147483647) ∧ (0 ≤ mi_f h 14003 - 1 ∧ mi_f h 14003 - 1 ≤ 5) ∧ (0 ≤ mi_f h 14003 - 1 ∧ mi_f h 14003 - 1 < 6)) ∧ ∀ h1, ab_Sh sx_sk h1 → mi_f h1 14003 = mi_f h 14003 - 1 → ab_Fr [(14003, 14004)] h h1 → ∃ Q1, me_E (d + 11) 192 0 (mi_entry 2 [.inr (.inr 109), .inl (mi_a h 148 (mi_f h 14003).toNat)]) [] h1 Q1 ∧ ∀ w h2, (∀ x, w = some x → mi_ok x) → Q1 w h2 → me_E (d + 12) 186 391 [some (.inr (.inr 109)), some (.inl zd), some (.inl zw), some (.inl v), some (.inl zm), some (.inl zt), some (.inl zb), some (.inl (mi_a h 148 (mi_f h 14003).toNat)), q8] (mi_back w []) h2 (fx_Q x0 h0) := fun {v} ov c1 c2 cv => by
    have L0 := (rs_lev s6 s1).1
    refine ⟨⟨⟨by omega, by omega⟩, ⟨by omega, by omega⟩, ⟨by omega, by omega⟩, ⟨by omega, by omega⟩⟩, fun h1 g1 g2 g3 => ?_⟩
    obtain ⟨c3, c4⟩ := rs_close s6 s1 c2 g3 g2
    have L1 := rs_lev c3 g1
    obtain ⟨⟨l1, l2⟩, -, l3, l4, l5, l6, -⟩ := L1
    have u0 := c4.1
    have u1 : mi_a h 148 (mi_f h 14003).toNat < wk_u Y := c4.2.1
    have nU := s6.1.1.1.2.1
    refine ⟨_, me_put (d := d + 11) g1 u0 (by omega) (by omega) l5 l6 l4, fun w h2 oww hq => ?_⟩
    obtain ⟨rfl, p1, p2, p3⟩ := hq
    obtain ⟨r1, r2, r3⟩ := rs_put c3 g1 c4 p2 p3
    have ef : mi_f h2 13960 = 0 := ((me_f (c := 13960) p2 g1 rfl rfl).trans (me_f (c := 13960) g3 s1 rfl rfl)).trans s3
    have ea : mi_f h2 14000 = mi_f h 14000 := (me_f (c := 14000) p2 g1 rfl rfl).trans (me_f (c := 14000) g3 s1 rfl rfl)
    have at1 := s4.2.1 (by omega) (by omega)
    have ke := kk.2.2.1 (by omega) (by omega)
    have R1 := RQ_lvl (k := mi_f h 14003 - 1) rq s1 g3 g2
    have R2 := RQ_put R1 g1 p2 p3
    have g5 : g 0 5 = mi_f h 14003 := rq.1.2.2.2.2.2
    have e148 : g 148 (g 0 5).toNat = mi_a h 148 (mi_f h 14003).toNat := by rw [g5, rq.2.1 148 (by decide)]
    have e151 : g 151 (mi_f h 14003 - 1).toNat = mi_a h 151 (mi_f h 14003 - 1).toNat := rq.2.1 151 (by decide) _
    refine x391 hC t0 ot od ow ov om ob (me_oi ⟨by omega, by omega⟩) o8 (fx_run hm ⟨p1, (s2.trans (g3.wide (fun c hc => ab_swr_ok (by decide) hc))).trans (p2.wide (fun c hc => ab_swr_ok (by decide) hc)), by omega, fun _ => ⟨by omega, fun _ => ⟨fun _ => r2, fun x => r3 ?_⟩, _, _, r1⟩⟩ ef ⟨by omega, by omega, lc_okf (lc_okf lk s1 g3 (by decide)) g1 p2 (by decide), _, k + 1, R2, ?_⟩)
    · rw [g2, me_a (k := 151) g3 s1 rfl rfl]
      by_cases cz : mi_a h 151 (mi_f h 14003 - 1).toNat = 0
      · exact cz
      · rw [if_neg cz] at cv
        exact absurd cv x
    · rw [ea, hd]
      refine ft_snoc k x0 tr ⟨_, _, _, _, tk, Or.inr ⟨hip, hd, Or.inr (Or.inr (Or.inr ⟨c1, by show 0 < g 0 5; omega, ?_⟩))⟩⟩
      show _ = (rf_put (rf_lvl g (g 0 5 - 1)) (g 148 (g 0 5).toNat), mi_f h 14000, 0, 1, ft_p (rf_lvl g (g 0 5 - 1)))
      have pv : ft_p (rf_lvl g (g 0 5 - 1)) = v := by
        show (if g 151 (g 0 5 - 1).toNat = 0 then 1 else 0) = v
        rw [cv, g5, e151]
      rw [pv, e148, g5]
  refine mt_fmR s1 od ow op om ot ob o7 o8 ?_ ?_ ?_ ?_ ?_ ?_ ?_
  · intro b c1 c2 h1 g1 g2
    have e := me_nil g2
    subst e
    exact bl (fun x => c1 x.1) (fun x => c2 x.1)
  · intro b b2 c1 c2 c3
    refine ⟨t0, fun h1 g1 g2 => ?_⟩
    have e := me_nil g2
    subst e
    have at1 := s4.2.1 (by omega) (by omega)
    have ke := kk.2.2.1 (by omega) (by omega)
    refine hC zd zw zp 0 _ _ _ h1 od ow op fm_in0 (me_oi ob) o7 o8 ⟨⟨s1, s2, by omega, fun _ => ⟨at1, s5, Y, z, s6⟩⟩, fun _ x => absurd rfl x, fun _ _ => ⟨by omega, lk, _, ⟨k, tr, (mx_l h1 14004).toInt, mi_f h1 14002, ?_, hd, ?_⟩, rq⟩, fun x => absurd s3 x⟩
    · rw [c2] at tk
      exact tk
    · show g 0 5 ≤ 0
      rw [rq.1.2.2.2.2.2]
      exact c3
  · intro b b2 c1 c2 c3 h1 g1 g2
    have e := me_nil g2
    subst e
    exact bl (fun x => c1 x.1) (fun x => by omega)
  · intro b b2 c1 c2 c3 h1 g1 g2
    have e := me_nil g2
    subst e
    exact bl (fun x => by omega) (fun x => c3 x.1)
  · intro b b2 c1 c2 c3
    exfalso
    omega
  · intro b b2 c1 c2 c3
    exact cl fm_in0 c1 c2 (by rw [if_neg c3])
  · intro b b2 c1 c2 c3
    exact cl fm_in1 c1 c2 (by rw [if_pos c3])
end FXP
/-! the reference's form, exactly: the rest of a turn, the loop, its begin -/
section FXR
variable {d : Nat} {x0 : ft_X} {h0 h h1 : sm_H} {zd zw zp zm zt zb : Int} {q7 q8 : Option mi_V}
theorem x277 (hS0 : ab_Sh sx_sk h0) (hC : fx_C d x0 h0 zt) (t0 : mi_in (zt + 1)) (ot : mi_in zt) (od : mi_in zd) (ow : mi_in zw) (op : mi_in zp) (om : mi_in zm) (ob : mi_in zb) (o7 : (∀ v, q7 = some v → mi_ok v)) (o8 : (∀ v, q8 = some v → mi_ok v)) (hm : zm ≠ 0) (hs : fx_S x0 h0 h zd zw zp zt) (hip : ¬ ip_t (mi_f h 14001) (mx_l h 14004).toInt) (hd : zd = 0) (n1 : ¬ ((mi_f h 14001 = 42 ∨ mi_f h 14001 = 63) ∧ zw ≠ 0)) (n2 : ¬ (mi_f h 14001 = 126 ∧ zp ≠ 0)) : me_E (d + 12) 186 277 [some (.inr (.inr 109)), some (.inl zd), some (.inl zw), some (.inl zp), some (.inl zm), some (.inl zt), some (.inl zb), q7, q8] [] h (fx_Q x0 h0) := by
  obtain ⟨hs', lk, g, k, a, za, an, rq, tr, tk⟩ := id hs
  obtain ⟨s1, s2, s3, s4, s5, Y, z, s6⟩ := id hs'
  have q1 : fm_q zd = 1 := if_pos hd
  rw [q1] at s6
  obtain ⟨⟨l1, l2⟩, ⟨l3, l4, l5⟩, l6, l7, -⟩ := rs_lev s6 s1
  have kk := tk_f an tk
  refine mt_fmO s1 od ow op om ot ob o7 o8 ?_ ?_ ?_
  · intro b c h1 g1 g2
    have e := me_nil g2
    subst e
    exact x330 hS0 hC t0 ot od ow op om ob o7 o8 hm hs hip hd n1 n2 c
  · intro b b2 c c2
    refine ⟨⟨⟨by omega, by omega⟩, ⟨by omega, by omega⟩⟩, fun h1 g1 g2 => ?_⟩
    have e := me_nil g2
    subst e
    have cc := s6.1.2.2.2.2.2.2.2 _ l3 l5
    have bA := s6.1.2.2.2.2.1
    have bU := me_fb (c := 13963) s1 rfl
    have bR := me_fb (c := 13961) s1 rfl
    refine ⟨_, me_beginx (d := d + 11) s1 ⟨by have := s4.1; omega, by have := s4.1; omega⟩ (by omega) (by omega) l3 l4 cc (fun _ => l7), fun w h2 oww hq => ?_⟩
    obtain ⟨rfl, p1, p2, p3, p4⟩ := hq
    obtain ⟨z', r1⟩ := rs_begin s6 s1 c2 p2 p3
    have ea : mi_f h2 14000 = mi_f h1 14000 := me_f (c := 14000) p2 s1 rfl rfl
    have ef : mi_f h2 13960 = 0 := (me_f (c := 13960) p2 s1 rfl rfl).trans s3
    have at1 := s4.2.1 (by omega) (by omega)
    have ke := kk.2.2.1 (by omega) (by omega)
    refine mt_fmQ p1 od ow op om ot ob o7 o8 ⟨t0, fun h3 g1 g2 => ?_⟩
    have e := me_nil g2
    subst e
    refine hC 1 zw zp zm _ _ _ h3 fm_in1 ow op om (me_oi ob) o7 o8 (fx_run hm ⟨p1, s2.trans (p2.wide (fun c hc => ab_swr_ok (by decide) hc)), by omega, fun _ => ⟨by omega, fun x => absurd x (by decide), Y, z', r1⟩⟩ ef ⟨by omega, by omega, lc_okf lk s1 p2 (by decide), _, k + 1, RQ_beg rq s1 p2 p3 p4, ?_⟩)
    rw [ea]
    refine ft_snoc k x0 tr ⟨_, _, _, _, tk, Or.inr ⟨hip, hd, Or.inr (Or.inr (Or.inl ⟨c, ?_, rfl⟩))⟩⟩
    show g 130 (g 146 (g 0 5).toNat).toNat ≠ 6
    rw [rq.1.2.2.2.2.2, rq.2.1 146 (by decide), rq.2.1 130 (by decide)]
    exact c2
  · intro b b2 c c2
    refine ⟨⟨⟨by omega, by omega⟩, ⟨by omega, by omega⟩⟩, fun h1 g1 g2 => ?_⟩
    have e := me_nil g2
    subst e
    refine ⟨_, me_blamex (d := d + 11) s1 (by decide) (by decide) (by have := s4.1; omega) (by have := s4.1; omega) (by omega), fun w h2 oww hq => ?_⟩
    obtain ⟨rfl, t1, t2, t3⟩ := hq
    refine mt_fmP t1 od ow op om ot ob o7 o8 ⟨t0, fun h3 g1 g2 => ?_⟩
    have e := me_nil g2
    subst e
    have p0 := s4.1
    refine hC 1 zw zp zm _ _ _ h3 fm_in1 ow op om (me_oi ob) o7 o8 (fx_blm (fm_bl hs' t1 t2 (by omega)) (by omega) (fx_flt hs t3 (fun g a r1 r3 => ⟨_, _, _, _, r3, Or.inr (Or.inr (Or.inr (Or.inl ⟨hip, hd, c, ?_, rfl⟩)))⟩)))
    show g 130 (g 146 (g 0 5).toNat).toNat = 6
    rw [r1.1.2.2.2.2.2, r1.2.1 146 (by decide), r1.2.1 130 (by decide)]
    exact c2
theorem x245 (hS0 : ab_Sh sx_sk h0) (hC : fx_C d x0 h0 zt) (t0 : mi_in (zt + 1)) (ot : mi_in zt) (od : mi_in zd) (ow : mi_in zw) (op : mi_in zp) (om : mi_in zm) (ob : mi_in zb) (o7 : (∀ v, q7 = some v → mi_ok v)) (o8 : (∀ v, q8 = some v → mi_ok v)) (hm : zm ≠ 0) (hs : fx_S x0 h0 h zd zw zp zt) (hip : ¬ ip_t (mi_f h 14001) (mx_l h 14004).toInt) (hd : zd = 0) (n1 : ¬ ((mi_f h 14001 = 42 ∨ mi_f h 14001 = 63) ∧ zw ≠ 0)) : me_E (d + 12) 186 245 [some (.inr (.inr 109)), some (.inl zd), some (.inl zw), some (.inl zp), some (.inl zm), some (.inl zt), some (.inl zb), q7, q8] [] h (fx_Q x0 h0) := by
  obtain ⟨hs', lk, g, k, a, za, an, rq, tr, tk⟩ := id hs
  obtain ⟨s1, s2, s3, s4, s5, Y, z, s6⟩ := id hs'
  have q1 : fm_q zd = 1 := if_pos hd
  rw [q1] at s6
  have kk := tk_f an tk
  refine mt_fmN s1 od ow op om ot ob o7 o8 ?_ ?_ ?_
  · intro b c h1 g1 g2
    have e := me_nil g2
    subst e
    exact x277 hS0 hC t0 ot od ow op om ob o7 o8 hm hs hip hd n1 (fun x => c x.1)
  · intro b c c2 h1 g1 g2
    have e := me_nil g2
    subst e
    exact x277 hS0 hC t0 ot od ow op om ob o7 o8 hm hs hip hd n1 (fun x => x.2 c2)
  · intro b b2 c c2
    refine ⟨⟨⟨by omega, by omega⟩, t0⟩, fun h1 g1 g2 g3 => ?_⟩
    obtain ⟨x1, x2⟩ := (s5 hd).2 c2
    have r1 := rs_swap s6 s1 g3 (fun i hi => by rw [g2, if_neg hi]) x1 x2
    have ea : mi_f h1 14000 = mi_f h 14000 := me_f (c := 14000) g3 s1 rfl rfl
    have ef : mi_f h1 13960 = 0 := (me_f (c := 13960) g3 s1 rfl rfl).trans s3
    have at1 := s4.2.1 (by omega) (by omega)
    have ke := kk.2.2.1 (by omega) (by omega)
    refine hC 1 0 0 zm _ _ _ h1 fm_in1 fm_in0 fm_in0 om (me_oi ob) o7 o8 (fx_run hm ⟨g1, s2.trans (g3.wide (fun c hc => ab_swr_ok (by decide) hc)), by omega, fun _ => ⟨by omega, fun x => absurd x (by decide), Y, z, r1⟩⟩ ef ⟨by omega, by omega, lc_okf lk s1 g3 (by decide), _, k + 1, RQ_swap rq s1 g3 g2, ?_⟩)
    rw [ea]
    exact ft_snoc k x0 tr ⟨_, _, _, _, tk, Or.inr ⟨hip, hd, Or.inr (Or.inl ⟨c, c2, rfl⟩)⟩⟩
theorem x175 (hS0 : ab_Sh sx_sk h0) (hC : fx_C d x0 h0 zt) (t0 : mi_in (zt + 1)) (ot : mi_in zt) (od : mi_in zd) (ow : mi_in zw) (op : mi_in zp) (om : mi_in zm) (ob : mi_in zb) (o7 : (∀ v, q7 = some v → mi_ok v)) (o8 : (∀ v, q8 = some v → mi_ok v)) (hm : zm ≠ 0) (hs : fx_S x0 h0 h zd zw zp zt) (hip : ¬ ip_t (mi_f h 14001) (mx_l h 14004).toInt) (hd : zd = 0) : me_E (d + 12) 186 175 [some (.inr (.inr 109)), some (.inl zd), some (.inl zw), some (.inl zp), some (.inl zm), some (.inl zt), some (.inl zb), q7, q8] [] h (fx_Q x0 h0) := by
  obtain ⟨hs', lk, g, k, a, za, an, rq, tr, tk⟩ := id hs
  obtain ⟨s1, s2, s3, s4, s5, Y, z, s6⟩ := id hs'
  obtain ⟨⟨l1, l2⟩, -, -, -, -, -, l8, -⟩ := rs_lev s6 s1
  have kk := tk_f an tk
  have wr : ∀ {h1 : sm_H} {v : Int}, (mi_f h 14001 = 42 ∨ mi_f h 14001 = 63) → (v = if mi_f h 14001 = 42 then 1 else 2) → zw ≠ 0 → ab_Sh sx_sk h1 → (∀ i, mi_a h1 122 i = if i = (mi_a h 150 (mi_f h 14003).toNat).toNat then v else mi_a h 122 i) → (∀ i, mi_a h1 123 i = if i = (mi_a h 150 (mi_f h 14003).toNat).toNat then mi_f h 14002 else mi_a h 123 i) → ab_Fr [(15616, 15617), (15744, 15745)] h h1 → me_E (d + 12) 186 22 [some (.inr (.inr 109)), some (.inl zd), some (.inl 0), some (.inl zp), some (.inl zm), some (.inl (zt + 1)), some (.inl zb), some (.inl (mi_a h 150 (mi_f h 14003).toNat)), q8] [] h1 (fx_Q x0 h0) := fun {h1 v} ct cv cw g1 g2 g22 g3 => by
    have ea : mi_f h1 14000 = mi_f h 14000 := me_f (c := 14000) g3 s1 rfl rfl
    have ef : mi_f h1 13960 = 0 := (me_f (c := 13960) g3 s1 rfl rfl).trans s3
    have e3 : mi_f h1 14003 = mi_f h 14003 := me_f (c := 14003) g3 s1 rfl rfl
    have at1 := s4.2.1 (by omega) (by omega)
    have ke := kk.2.2.1 (by omega) (by omega)
    have x0' := (s5 hd).1 cw
    refine hC zd 0 zp zm _ _ _ h1 od fm_in0 op om (me_oi ob) (me_oi ⟨by omega, by omega⟩) o8 (fx_run hm ⟨g1, s2.trans (g3.wide (fun c hc => ab_swr_ok (by decide) hc)), by omega, fun _ => ⟨by omega, fun _ => ⟨fun x => absurd rfl x, fun x => ?_⟩, Y, z, rs_fr s6 s1 g3 (by decide)⟩⟩ ef ⟨by omega, by omega, lc_okf lk s1 g3 (by decide), _, k + 1, RQ_wrap rq s1 g3 g2 g22, ?_⟩)
    · rw [e3, me_a (k := 149) g3 s1 rfl rfl, me_a (k := 124) g3 s1 rfl rfl]
      exact (s5 hd).2 x
    · rw [ea]
      refine ft_snoc k x0 tr ⟨_, _, _, _, tk, Or.inr ⟨hip, hd, Or.inl ⟨ct, cw, ?_⟩⟩⟩
      show _ = (rf_wrap g (g 150 (g 0 5).toNat) (if mi_f h 14001 = 42 then 1 else 2) (mi_f h 14002), mi_f h 14000, 0, 0, zp)
      rw [rq.1.2.2.2.2.2, rq.2.1 150 (by decide), ← cv, hd]
  refine mt_fmM s1 od ow op om ot ob o7 o8 ?_ ?_ ?_ ?_ ?_
  · intro b c c2 h1 g1 g2
    have e := me_nil g2
    subst e
    exact x245 hS0 hC t0 ot od ow op om ob o7 o8 hm hs hip hd (fun x => x.2 c2)
  · intro b b2 c c2
    have x0 := (s5 hd).1 c2
    refine ⟨⟨⟨by omega, by omega⟩, ⟨by omega, by omega⟩, t0⟩, fun h1 g1 g2 g3 g4 => wr (v := 1) (Or.inl c) (by rw [if_pos c]) c2 g1 g2 g3 g4⟩
  · intro b c c2 h1 g1 g2
    have e := me_nil g2
    subst e
    exact x245 hS0 hC t0 ot od ow op om ob o7 o8 hm hs hip hd (fun x => by have := x.1; omega)
  · intro b c c2 c3 h1 g1 g2
    have e := me_nil g2
    subst e
    exact x245 hS0 hC t0 ot od ow op om ob o7 o8 hm hs hip hd (fun x => x.2 c3)
  · intro b b2 c c2 c3
    have x0 := (s5 hd).1 c3
    refine ⟨⟨⟨by omega, by omega⟩, ⟨by omega, by omega⟩, t0⟩, fun h1 g1 g2 g3 g4 => wr (v := 2) (Or.inr c2) (by rw [if_neg c]) c3 g1 g2 g3 g4⟩
theorem x159 (hS0 : ab_Sh sx_sk h0) (hC : fx_C d x0 h0 zt) (t0 : mi_in (zt + 1)) (ot : mi_in zt) (od : mi_in zd) (ow : mi_in zw) (op : mi_in zp) (om : mi_in zm) (ob : mi_in zb) (o7 : (∀ v, q7 = some v → mi_ok v)) (o8 : (∀ v, q8 = some v → mi_ok v)) (hm : zm ≠ 0) (hs : fx_S x0 h0 h zd zw zp zt) (hip : ¬ ip_t (mi_f h 14001) (mx_l h 14004).toInt) : me_E (d + 12) 186 159 [some (.inr (.inr 109)), some (.inl zd), some (.inl zw), some (.inl zp), some (.inl zm), some (.inl zt), some (.inl zb), q7, q8] [] h (fx_Q x0 h0) := by
  have hs' := hs.1
  have s1 := hs'.1
  have s4 := hs'.2.2.2.1
  have s3 := hs'.2.2.1
  refine mt_fmK s1 od ow op om ot ob o7 o8 ?_ ?_
  · intro c h1 g1 g2
    have e := me_nil g2
    subst e
    exact x175 hS0 hC t0 ot od ow op om ob o7 o8 hm hs hip c
  · intro c h1 g1 g2
    have e := me_nil g2
    subst e
    refine ⟨_, me_blamex (d := d + 11) s1 (by decide) (by decide) (by have := s4.1; omega) (by have := s4.1; omega) (by omega), fun w h2 oww hq => ?_⟩
    obtain ⟨rfl, t1, t2, t3⟩ := hq
    refine mt_fmL t1 od ow op om ot ob o7 o8 ⟨t0, fun h3 g1 g2 => ?_⟩
    have e := me_nil g2
    subst e
    have p0 := s4.1
    exact hC zd zw zp zm _ _ _ h3 od ow op om (me_oi ob) o7 o8 (fx_blm (fm_bl hs' t1 t2 (by omega)) (by omega) (fx_flt hs t3 (fun g a r1 r3 => ⟨_, _, _, _, r3, Or.inr (Or.inr (Or.inl ⟨hip, c, rfl⟩))⟩)))
theorem x46 {q6 : Option mi_V} (hS0 : ab_Sh sx_sk h0) (hC : fx_C d x0 h0 zt) (t0 : mi_in (zt + 1)) (ot : mi_in zt) (od : mi_in zd) (ow : mi_in zw) (op : mi_in zp) (om : mi_in zm) (o6 : (∀ v, q6 = some v → mi_ok v)) (o7 : (∀ v, q7 = some v → mi_ok v)) (o8 : (∀ v, q8 = some v → mi_ok v)) (hm : zm ≠ 0) (hs : fx_S x0 h0 h zd zw zp zt) : me_E (d + 12) 186 46 [some (.inr (.inr 109)), some (.inl zd), some (.inl zw), some (.inl zp), some (.inl zm), some (.inl zt), q6, q7, q8] [] h (fx_Q x0 h0) := by
  have s1 := hs.1.1
  have b3 := me_fb (c := 14003) s1 rfl
  have bb := me_ab (k := 151) (i := (mi_f h 14003).toNat) s1 rfl (by decide) (by omega)
  have ob : mi_in (mi_a h 151 (mi_f h 14003).toNat) := ⟨by omega, by omega⟩
  refine mt_fmD s1 od ow op om ot o6 o7 o8 ?_
  intro b
  refine ⟨⟨by omega, by omega⟩, fun h1 g1 g2 => ?_⟩
  have e := me_nil g2
  subst e
  refine ⟨_, me_isPartx (d := d + 10) s1, fun w h2 oww hq => ?_⟩
  obtain ⟨rfl, v, rfl, v0, v1⟩ := hq
  refine mt_fmE (zz := v) s1 od ow op om ot ob ⟨by omega, by omega⟩ o7 o8 ?_ ?_ ?_
  · intro c h3 g1 g2
    have e := me_nil g2
    subst e
    exact x159 hS0 hC t0 ot od ow op om ob o7 o8 hm hs (fun x => by have := v1.mpr x; omega)
  · intro b c c2 h3 g1 g2
    have e := me_nil g2
    subst e
    have ip := v1.mp (by omega)
    refine mt_fmF s1 od ow op om ot ob fm_in0 o8 ?_ ?_
    · intro b c3 h4 g1 g2
      have e := me_nil g2
      subst e
      exact x106 hS0 hC t0 ot od ow op om ob fm_in0 fm_in0 hm (Or.inl rfl) hs rfl ip ⟨fun x => absurd rfl x, fun x => absurd x c2⟩ ⟨fun x => absurd rfl x, fun x => absurd x.1 c3⟩
    · intro b c3 h4 g1 g2
      have e := me_nil g2
      subst e
      refine ⟨_, me_sortx (d := d + 11) s1, fun w h5 oww hq => ?_⟩
      obtain ⟨rfl, rfl⟩ := hq
      have sb := so_r_b (mx_l h5 14004).toInt
      refine mt_fmG (zz := so_r (mx_l h5 14004).toInt) s1 od ow op om ot ob fm_in0 ⟨by omega, by omega⟩ o8 ?_ ?_
      · intro c4 h6 g1 g2
        have e := me_nil g2
        subst e
        exact x106 hS0 hC t0 ot od ow op om ob fm_in0 fm_in0 hm (Or.inl rfl) hs rfl ip ⟨fun x => absurd rfl x, fun x => absurd x c2⟩ ⟨fun x => absurd rfl x, fun x => absurd x.2 c4⟩
      · intro c4 h6 g1 g2
        have e := me_nil g2
        subst e
        exact x106 hS0 hC t0 ot od ow op om ob fm_in0 fm_in1 hm (Or.inl rfl) hs rfl ip ⟨fun x => absurd rfl x, fun x => absurd x c2⟩ ⟨fun _ => ⟨c3, c4⟩, fun _ => by decide⟩
  · intro b c c2 h3 g1 g2
    have e := me_nil g2
    subst e
    have ip := v1.mp (by omega)
    refine mt_fmF s1 od ow op om ot ob fm_in1 o8 ?_ ?_
    · intro b c3 h4 g1 g2
      have e := me_nil g2
      subst e
      exact x106 hS0 hC t0 ot od ow op om ob fm_in1 fm_in0 hm (Or.inr rfl) hs rfl ip ⟨fun _ => c2, fun _ => by decide⟩ ⟨fun x => absurd rfl x, fun x => by omega⟩
    · intro b c3 h4 g1 g2
      exfalso
      omega
theorem fx_loop (hS0 : ab_Sh sx_sk h0) : ∀ (N : Nat) (zt zd zw zp zm : Int) (q6 q7 q8 : Option mi_V) (h : sm_H), 300 - zt < N → 0 ≤ zt → zt ≤ 300 → mi_in zd → mi_in zw → mi_in zp → mi_in zm → (∀ v, q6 = some v → mi_ok v) → (∀ v, q7 = some v → mi_ok v) → (∀ v, q8 = some v → mi_ok v) → fx_H x0 h0 h zd zw zp zm zt → me_E (d + 12) 186 22 [some (.inr (.inr 109)), some (.inl zd), some (.inl zw), some (.inl zp), some (.inl zm), some (.inl zt), q6, q7, q8] [] h (fx_Q x0 h0) := by
  intro N
  induction N with
  | zero => intro zt zd zw zp zm q6 q7 q8 h hN t0 t1; exfalso; omega
  | succ N ih =>
    intro zt zd zw zp zm q6 q7 q8 h hN t0 t1 od ow op om o6 o7 o8 hH
    obtain ⟨⟨s1, s2, s3, s4⟩, hG, hD, hB⟩ := id hH
    have ot : mi_in zt := ⟨by omega, by omega⟩
    have bn := me_fb (c := 13953) hS0 rfl
    have fin : (mi_f h 13960 = 0 → zm ≠ 0 → False) → ∀ h1, ab_Sh sx_sk h1 → ab_Fr [] h h1 → fx_Q x0 h0 none h1 := fun no h1 g1 g2 => by
      have e := me_nil g2
      subst e
      refine ⟨⟨rfl, s1, s2, s3, fun x => ?_⟩, fun x => ?_, hB⟩
      · obtain ⟨y1, y2, Y, z, y3⟩ := s4 x
        exact ⟨y1, Y, z, rs_weak y3.1 fm_q0⟩
      · by_cases c : zm = 0
        · exact hD x c
        · exact (no x c).elim
    refine mt_fmC s1 od ow op om ot o6 o7 o8 ?_ ?_ ?_ ?_
    · intro c
      refine fin (fun x y => ?_)
      obtain ⟨y1, y2, -⟩ := hG x y
      omega
    · intro c c2
      exact fin (fun x y => y c2)
    · intro b c c2 c3
      exact fin (fun x y => c3 x)
    · intro b c c2 c3 h1 g1 g2
      have e := me_nil g2
      subst e
      obtain ⟨y1, y2, Y, z, y3⟩ := s4 c3
      obtain ⟨w1, w2, w3, g, k, w4, w5⟩ := hG c3 c2
      have en1 : mi_f h1 13953 = mi_f h0 13953 := me_f (c := 13953) s2 hS0 rfl rfl
      have ec1 : mi_a h1 110 = mi_a h0 110 := funext (fun i => me_a (k := 110) s2 hS0 rfl rfl)
      refine ⟨_, (me_scan (d := d + 9) s1 y1).and (me_scanx (d := d + 9) s1 (by omega)), fun w h2 oww hq => ?_⟩
      obtain ⟨⟨rfl, r1, r2, r3⟩, -, -, -, r4⟩ := hq
      rw [en1, ec1] at r4
      have e3 : mi_f h2 14003 = mi_f h1 14003 := me_f (c := 14003) r2 s1 rfl rfl
      have ef : mi_f h2 13960 = 0 := (me_f (c := 13960) r2 s1 rfl rfl).trans c3
      refine x46 (zt := zt) hS0 (fun zd zw zp zm q6 q7 q8 h od ow op om o6 o7 o8 hH => ih (zt + 1) zd zw zp zm q6 q7 q8 h (by omega) (by omega) (by omega) od ow op om o6 o7 o8 hH) ⟨by omega, by omega⟩ ot od ow op om o6 o7 o8 c2 ⟨⟨r1, s2.trans (r2.wide (fun c hc => ab_swr_ok (by decide) hc)), ef, r3, ?_, Y, z, rs_fr y3 s1 r2 (by decide)⟩, lc_okf w3 s1 r2 (by decide), g, k, _, w2, w1, RQ_same w4 s1 r2 (by decide), w5, r4⟩
      intro x
      rw [e3, me_a (k := 150) r2 s1 rfl rfl, me_a (k := 149) r2 s1 rfl rfl, me_a (k := 124) r2 s1 rfl rfl]
      exact y2 x
end FXR
/-! the reference's form from its begin, readRule, read, exactly -/
def rf_rule (g : wk_g) (v p : Int) : wk_g := fun r i =>
  if r = 0 then (if i = 2 then g 0 2 + 1 else if i = 3 then g 0 3 + 1 else if i = 5 then 0 else g 0 i)
  else if r = 113 then (if i = (g 0 3).toNat then p else g 113 i)
  else if r = 114 then (if i = (g 0 3).toNat then g 0 2 else g 114 i)
  else if r = 115 then (if i = v.toNat then g 0 3 else g 115 i)
  else if r = 129 then (if i = (g 0 2).toNat then -1 else g 129 i)
  else if r = 130 then (if i = (g 0 2).toNat then 0 else g 130 i)
  else if r = 146 then (if i = 0 then g 0 2 else g 146 i)
  else g r i
theorem RQ_rule {g : wk_g} {h h' : sm_H} {v p : Int} (hq : RQ g h) (hS : ab_Sh sx_sk h) (hF : ab_Fr [(13961, 13962), (13965, 13966), (14003, 14004), (14464, 14721), (16512, 16513), (16640, 16641), (18688, 18689)] h h') (fF : mi_f h' 13965 = mi_f h 13965 + 1) (fR : mi_f h' 13961 = mi_f h 13961 + 1) (f5 : mi_f h' 14003 = 0) (h113 : ∀ i, mi_a h' 113 i = if i = (mi_f h 13961).toNat then p else mi_a h 113 i) (h114 : ∀ i, mi_a h' 114 i = if i = (mi_f h 13961).toNat then mi_f h 13965 else mi_a h 114 i) (h115 : ∀ i, mi_a h' 115 i = if i = v.toNat then mi_f h 13961 else mi_a h 115 i) (h129 : ∀ i, mi_a h' 129 i = if i = (mi_f h 13965).toNat then -1 else mi_a h 129 i) (h130 : ∀ i, mi_a h' 130 i = if i = (mi_f h 13965).toNat then 0 else mi_a h 130 i) (h146 : ∀ i, mi_a h' 146 i = if i = 0 then mi_f h 13965 else mi_a h 146 i) : RQ (rf_rule g v p) h' := by
  obtain ⟨⟨q0, q1, q2, q3, q4, q5⟩, qa, ql⟩ := id hq
  have e := fun r (hr : r ∈ rk_L) => qa r hr
  refine ⟨⟨?_, ?_, ?_, ?_, ?_, ?_⟩, fun r hr i => ?_, fun i => ?_⟩
  · exact q0.trans (me_f (c := 13963) hF hS rfl rfl).symm
  · exact q1.trans (me_f (c := 13964) hF hS rfl rfl).symm
  · show g 0 2 + 1 = _
    rw [fF, q2]
  · show g 0 3 + 1 = _
    rw [fR, q3]
  · exact q4.trans (me_f (c := 13962) hF hS rfl rfl).symm
  · show 0 = _
    rw [f5]
  · have k := hr
    simp only [rk_L, List.mem_cons, List.not_mem_nil, or_false] at k
    rcases k with rfl | rfl | rfl | rfl | rfl | rfl | rfl | rfl | rfl | rfl | rfl | rfl | rfl | rfl | rfl | rfl | rfl | rfl | rfl | rfl | rfl
    all_goals
      first
        | exact RQ_st hq hS hF hr rfl rfl i
        | (show (if i = (g 0 3).toNat then p else g 113 i) = mi_a h' 113 i
           rw [h113, q3, e 113 (by decide)])
        | (show (if i = (g 0 3).toNat then g 0 2 else g 114 i) = mi_a h' 114 i
           rw [h114, q3, q2, e 114 (by decide)])
        | (show (if i = v.toNat then g 0 3 else g 115 i) = mi_a h' 115 i
           rw [h115, q3, e 115 (by decide)])
        | (show (if i = (g 0 2).toNat then -1 else g 129 i) = mi_a h' 129 i
           rw [h129, q2, e 129 (by decide)])
        | (show (if i = (g 0 2).toNat then 0 else g 130 i) = mi_a h' 130 i
           rw [h130, q2, e 130 (by decide)])
        | (show (if i = 0 then g 0 2 else g 146 i) = mi_a h' 146 i
           rw [h146, q2, e 146 (by decide)])
  · show g 117 i = _
    rw [ql, lc_fr hS hF rfl rfl]
def ru_x (g : wk_g) (v p a : Int) : ft_X := (rf_beg (rf_lvl (rf_rule g v p) 0) 0, a, 1, 0, 0)
/-- a rule is read -/
def ru_T (n : Int) (c : Nat → Int) (s s' : wk_g × Int) : Prop := ∃ v p e v2 p2 e2 y, tk_T n c s.2 2 v p e ∧ s.1 115 v.toNat < 0 ∧ s.1 0 3 ≠ 10 ∧ tk_T n c e 61 v2 p2 e2 ∧ ft_D n c (ru_x s.1 v p e2) y s'.2 ∧ s'.1 = y.1
/-- a fault in a rule -/
def ru_F (n : Int) (c : Nat → Int) (s : wk_g × Int) (f : Int) : Prop := ∃ t v p e, tk_T n c s.2 t v p e ∧ ¬ (t = 0 ∧ s.1 0 3 ≠ 0) ∧ ((t ≠ 2 ∧ f = 1 + 16 * p) ∨ (t = 2 ∧ 0 ≤ s.1 115 v.toNat ∧ f = 2 + 16 * p) ∨ (t = 2 ∧ s.1 115 v.toNat < 0 ∧ s.1 0 3 = 10 ∧ f = 3 + 16 * p) ∨ (t = 2 ∧ s.1 115 v.toNat < 0 ∧ s.1 0 3 ≠ 10 ∧ ∃ t2 v2 p2 e2, tk_T n c e t2 v2 p2 e2 ∧ ((t2 ≠ 61 ∧ f = 1 + 16 * p2) ∨ (t2 = 61 ∧ ft_B n c (ru_x s.1 v p e2) f))))
def rz_E (n : Int) (c : Nat → Int) (s : wk_g × Int) : Prop := (∃ v p e, tk_T n c s.2 0 v p e) ∧ s.1 0 3 ≠ 0
def ru_Tr (n : Int) (c : Nat → Int) : Nat → wk_g × Int → wk_g × Int → Prop
  | 0, x, y => x = y
  | k + 1, x, y => ∃ z, ru_T n c x z ∧ ru_Tr n c k z y
def rz_D (n : Int) (c : Nat → Int) (g0 g : wk_g) : Prop := ∃ k a, ru_Tr n c k (g0, 0) (g, a) ∧ rz_E n c (g, a)
def rz_U (g : wk_g) : Prop := ∀ u : Nat, (u : Int) < g 0 0 → g 119 u = 9 → 0 ≤ g 115 (g 120 u).toNat
def rz_N (g : wk_g) (f : Int) : Prop := ∃ u : Nat, (u : Int) < g 0 0 ∧ g 119 u = 9 ∧ g 115 (g 120 u).toNat < 0 ∧ (∀ j : Nat, j < u → g 119 j = 9 → 0 ≤ g 115 (g 120 j).toNat) ∧ f = 4 + 16 * g 121 u
def rz_R (n : Int) (c : Nat → Int) (g0 : wk_g) (f : Int) : Prop := ∃ k s, ru_Tr n c k (g0, 0) s ∧ ru_F n c s f
def rz_B (n : Int) (c : Nat → Int) (g0 : wk_g) (f : Int) : Prop := rz_R n c g0 f ∨ ∃ g, rz_D n c g0 g ∧ rz_N g f
def rz_0 (g : wk_g) : Prop := (g 0 0 = 0 ∧ g 0 1 = 0 ∧ g 0 2 = 0 ∧ g 0 3 = 0 ∧ g 0 4 = 0) ∧ ∀ i : Nat, i < 26 → g 115 i = -1
section RUU
variable {n : Int} {c : Nat → Int} {s s' s'' : wk_g × Int} {f f' : Int} {g0 g g' : wk_g}
theorem ru_u (h : ru_T n c s s') (h' : ru_T n c s s'') : s' = s'' := by
  obtain ⟨v, p, e, v2, p2, e2, y, k1, -, -, k4, k5, k6⟩ := h
  obtain ⟨v', p', e', v2', p2', e2', y', k1', -, -, k4', k5', k6'⟩ := h'
  obtain ⟨-, a2, a3⟩ := tk_u k1 k1'
  obtain ⟨a4, a5⟩ := a3 (by decide) (by decide)
  subst a2
  subst a4
  subst a5
  obtain ⟨-, -, b3⟩ := tk_u k4 k4'
  obtain ⟨-, b5⟩ := b3 (by decide) (by decide)
  subst b5
  obtain ⟨c1, c2⟩ := ft_DD k5 k5'
  rw [c1] at k6
  exact Prod.ext (k6.trans k6'.symm) c2
theorem ru_TF (h : ru_T n c s s') (h' : ru_F n c s f) : False := by
  obtain ⟨v, p, e, v2, p2, e2, y, k1, k2, k3, k4, k5, k6⟩ := h
  obtain ⟨t, v', p', e', k1', -, k2'⟩ := h'
  obtain ⟨a1, a2, a3⟩ := tk_u k1 k1'
  obtain ⟨a4, a5⟩ := a3 (by decide) (by decide)
  subst a1
  subst a2
  subst a4
  subst a5
  rcases k2' with ⟨x1, -⟩ | ⟨-, x2, -⟩ | ⟨-, -, x3, -⟩ | ⟨-, -, -, t2, w2, q2, d2, x4, x5⟩
  · exact x1 rfl
  · omega
  · exact k3 x3
  · obtain ⟨b1, -, b3⟩ := tk_u k4 x4
    obtain ⟨-, b5⟩ := b3 (by decide) (by decide)
    subst b5
    rcases x5 with ⟨y1, -⟩ | ⟨-, y2⟩
    · exact y1 b1.symm
    · exact ft_DB k5 y2
theorem ru_TE (h : ru_T n c s s') (h' : rz_E n c s) : False := by
  obtain ⟨v, p, e, v2, p2, e2, y, k1, -⟩ := h
  obtain ⟨⟨v', p', e', k1'⟩, -⟩ := h'
  exact absurd (tk_u k1 k1').1 (by decide)
theorem ru_EF (h : rz_E n c s) (h' : ru_F n c s f) : False := by
  obtain ⟨⟨v, p, e, k1⟩, k2⟩ := h
  obtain ⟨t, v', p', e', k1', k2', -⟩ := h'
  exact k2' ⟨(tk_u k1 k1').1.symm, k2⟩
theorem ru_Fu (h : ru_F n c s f) (h' : ru_F n c s f') : f = f' := by
  obtain ⟨t, v, p, e, k1, -, k2⟩ := h
  obtain ⟨t', v', p', e', k1', -, k2'⟩ := h'
  obtain ⟨a1, a2, a3⟩ := tk_u k1 k1'
  subst a1
  subst a2
  by_cases c2 : t = 2
  · obtain ⟨a4, a5⟩ := a3 (by omega) (by omega)
    subst a4
    subst a5
    rcases k2 with ⟨x1, -⟩ | ⟨-, x2, x3⟩ | ⟨-, x2, x3, x4⟩ | ⟨-, x2, x3, t2, w2, q2, d2, x4, x5⟩
    · exact absurd c2 x1
    · rcases k2' with ⟨y1, -⟩ | ⟨-, y2, y3⟩ | ⟨-, y2, -⟩ | ⟨-, y2, -⟩
      · exact absurd c2 y1
      · omega
      · omega
      · omega
    · rcases k2' with ⟨y1, -⟩ | ⟨-, y2, y3⟩ | ⟨-, y2, y3, y4⟩ | ⟨-, y2, y3, -⟩
      · exact absurd c2 y1
      · omega
      · omega
      · omega
    · rcases k2' with ⟨y1, -⟩ | ⟨-, y2, y3⟩ | ⟨-, y2, y3, y4⟩ | ⟨-, y2, y3, t2', w2', q2', d2', y4, y5⟩
      · exact absurd c2 y1
      · omega
      · omega
      · obtain ⟨b1, b2, b3⟩ := tk_u x4 y4
        rcases x5 with ⟨u1, u2⟩ | ⟨u1, u2⟩
        · rcases y5 with ⟨w1, w2⟩ | ⟨w1, w2⟩
          · omega
          · omega
        · rcases y5 with ⟨w1, w2⟩ | ⟨w1, w2⟩
          · omega
          · obtain ⟨-, b5⟩ := b3 (by omega) (by omega)
            subst b5
            exact ft_BB u2 w2
  · rcases k2 with ⟨-, x3⟩ | ⟨x1, -⟩ | ⟨x1, -⟩ | ⟨x1, -⟩
    · rcases k2' with ⟨-, y3⟩ | ⟨y1, -⟩ | ⟨y1, -⟩ | ⟨y1, -⟩
      · omega
      all_goals exact absurd y1 c2
    all_goals exact absurd x1 c2
theorem ru_snoc {z : wk_g × Int} : ∀ (k : Nat) (x : wk_g × Int), ru_Tr n c k x s → ru_T n c s z → ru_Tr n c (k + 1) x z := by
  intro k
  induction k with
  | zero => intro x h h'; exact ⟨z, by have e : x = s := h; rw [e]; exact h', rfl⟩
  | succ k ih => intro x h h'; obtain ⟨w, h1, h2⟩ := h; exact ⟨w, h1, ih w h2 h'⟩
theorem ru_pre {z : wk_g × Int} (hd : rz_E n c s ∨ ru_F n c s f) : ∀ (k : Nat) (x : wk_g × Int), ru_Tr n c k x s → ∀ k', ru_Tr n c k' x z → ∃ j, ru_Tr n c j z s := by
  intro k
  induction k with
  | zero =>
    intro x h k' h'
    cases k' with
    | zero => exact ⟨0, by have e : x = s := h; have e' : x = z := h'; exact e'.symm.trans e⟩
    | succ k' =>
      obtain ⟨w, h1, -⟩ := h'
      have e : x = s := h
      rw [e] at h1
      rcases hd with q | q
      · exact (ru_TE h1 q).elim
      · exact (ru_TF h1 q).elim
  | succ k ih =>
    intro x h k' h'
    cases k' with
    | zero => exact ⟨k + 1, by have e : x = z := h'; rw [← e]; exact h⟩
    | succ k' =>
      obtain ⟨w, h1, h2⟩ := h
      obtain ⟨w', h1', h2'⟩ := h'
      have e := ru_u h1 h1'
      rw [← e] at h2'
      exact ih w h2 k' h2'
theorem ru_end0 {z : wk_g × Int} {f' : Int} {j : Nat} (h : ru_Tr n c j z s) (hz : rz_E n c z ∨ ru_F n c z f') : z = s := by
  cases j with
  | zero => exact h
  | succ j =>
    obtain ⟨w, h1, -⟩ := h
    rcases hz with q | q
    · exact (ru_TE h1 q).elim
    · exact (ru_TF h1 q).elim
theorem rz_DD (h : rz_D n c g0 g) (h' : rz_D n c g0 g') : g = g' := by
  obtain ⟨k, a, h1, h2⟩ := h
  obtain ⟨k', a', h1', h2'⟩ := h'
  obtain ⟨j, h3⟩ := ru_pre (f := 0) (Or.inl h2) k _ h1 k' h1'
  have e := ru_end0 (f' := 0) h3 (Or.inl h2')
  exact (congrArg Prod.fst e).symm
theorem rz_DR (h : rz_D n c g0 g) (h' : rz_R n c g0 f) : False := by
  obtain ⟨k, a, h1, h2⟩ := h
  obtain ⟨k', s, h1', h2'⟩ := h'
  obtain ⟨j, h3⟩ := ru_pre (f := 0) (Or.inl h2) k _ h1 k' h1'
  have e := ru_end0 h3 (Or.inr h2')
  rw [e] at h2'
  exact ru_EF h2 h2'
theorem rz_RR (h : rz_R n c g0 f) (h' : rz_R n c g0 f') : f = f' := by
  obtain ⟨k, s, h1, h2⟩ := h
  obtain ⟨k', s', h1', h2'⟩ := h'
  obtain ⟨j, h3⟩ := ru_pre (Or.inr h2) k _ h1 k' h1'
  have e := ru_end0 h3 (Or.inr h2')
  rw [e] at h2'
  exact ru_Fu h2 h2'
theorem rz_NN (h : rz_N g f) (h' : rz_N g f') : f = f' := by
  obtain ⟨u, a1, a2, a3, a4, a5⟩ := h
  obtain ⟨w, b1, b2, b3, b4, b5⟩ := h'
  rcases Nat.lt_trichotomy u w with x | x | x
  · have := b4 u x a2
    omega
  · subst x
    omega
  · have := a4 w x b2
    omega
/-- read well and read with a fault exclude each other; and there is but one fault -/
theorem rz_xB (h : rz_D n c g0 g) (hu : rz_U g) (h' : rz_B n c g0 f) : False := by
  rcases h' with x | ⟨g', x1, u, b1, b2, b3, -⟩
  · exact rz_DR h x
  · have e := rz_DD h x1
    subst e
    have := hu u b1 b2
    omega
theorem rz_BB (h : rz_B n c g0 f) (h' : rz_B n c g0 f') : f = f' := by
  rcases h with x | ⟨g, x1, x2⟩ <;> rcases h' with y | ⟨g', y1, y2⟩
  · exact rz_RR x y
  · exact (rz_DR y1 x).elim
  · exact (rz_DR x1 y).elim
  · have e := rz_DD x1 y1
    subst e
    exact rz_NN x2 y2
end RUU
/-! the reference's form from its begin, readRule, read: the program -/
def rx_Q (n : Int) (c : Nat → Int) (g : wk_g) (a : Int) (_ : Option mi_V) (h' : sm_H) : Prop := (mi_f h' 13960 = 0 → mi_f h' 14000 ≤ n ∧ lc_ok h' ∧ mi_f h' 13961 = g 0 3 + 1 ∧ ∃ g', ru_T n c (g, a) (g', mi_f h' 14000) ∧ RQ g' h') ∧ (mi_f h' 13960 ≠ 0 → ru_F n c (g, a) (mi_f h' 13960))
section RXF
variable {d : Nat} {h0 h : sm_H} {Y : wk_Y} {z : rd_Z} {g : wk_g}
theorem me_formx (hS0 : ab_Sh sx_sk h0) (hf : mi_f h0 13960 = 0) (ha : mi_f h0 14000 ≤ 241) (hP : fm_P h0 Y z) (hq : RQ g h0) (hl : lc_ok h0) (han : mi_f h0 14000 ≤ mi_f h0 13953) : me_E (d + 12) 186 0 [some (.inr (.inr 109)), none, none, none, none, none, none, none, none] [] h0 (fx_Q (rf_beg (rf_lvl g 0) 0, mi_f h0 14000, 1, 0, 0) h0) := by
  have bU := me_fb (c := 13963) hS0 rfl
  have bR := me_fb (c := 13961) hS0 rfl
  have bT := me_fb (c := 14000) hS0 rfl
  obtain ⟨j1, j2, j3, j4, j5, j6, j7, j8, j9, j10, j11⟩ := hP
  obtain ⟨⟨f0, f1, -⟩, -⟩ := j1.2.2.2.2.1 0 (Int.le_refl _) (by omega)
  have f0 : 0 ≤ mi_a h0 146 0 := f0
  have f1 : mi_a h0 146 0 < wk_f Y := f1
  refine mt_fmA hS0 (fun h1 g1 g2 g3 => ?_)
  have R1 := RQ_lvl (k := 0) hq hS0 g3 g2
  have a1 : ∀ j, j ∈ [115, 119, 120, 124, 125, 126, 128, 129, 130, 146, 147, 148, 149, 150, 151] → ∀ i, mi_a h1 j i = mi_a h0 j i := me_as _ g3 hS0 (by decide)
  have e64 : mi_f h1 13964 = mi_f h0 13964 := me_f (c := 13964) g3 hS0 rfl rfl
  have e146 := a1 146 (by decide)
  have e130 := a1 130 (by decide)
  have z0 : (mi_f h1 14003).toNat = 0 := by rw [g2]; rfl
  have ch : mi_a h1 130 (mi_a h1 146 (mi_f h1 14003).toNat).toNat = 0 := by rw [z0, e146, e130]; exact j10
  refine ⟨_, me_beginx (d := d + 11) (zp := 0) g1 fm_in0 (by omega) (by omega) (by rw [z0, e146]; exact f0) (by rw [z0, e146]; have := j1.1; omega) (by rw [ch]; decide) (fun c => absurd ch c), fun w h2 oww hq2 => ?_⟩
  obtain ⟨rfl, t1, t2, tb, t127⟩ := hq2
  have R2 := RQ_beg R1 g1 t2 tb t127
  obtain ⟨t3, t4, t5, t6, t7, t8, t9, t10, t11⟩ := tb
  rw [z0] at t5 t6 t7 t8 t9 t10 t11
  rw [e64] at t3 t4 t5 t6 t8
  have kz : (rd_k z).toNat = 0 := by rw [j2]; rfl
  have F2 : ab_Fr fm_W h0 h2 := (g3.wide (fun c hc => ab_swr_ok (by decide) hc)).trans (t2.wide (fun c hc => ab_swr_ok (by decide) hc))
  have BG := rd_begin (g := mi_a h0) (g' := mi_a h2) j1 (by omega) (by omega) (fun j hj i => (me_as [115, 119, 120, 124, 125, 146, 148] t2 g1 (by decide) j hj i).trans (me_as [115, 119, 120, 124, 125, 146, 148] g3 hS0 (by decide) j hj i))
    (fun i => by rw [t4, a1 126 (by decide), j5])
    (fun i => by rw [t5, e130, e146, a1 147 (by decide), a1 128 (by decide), kz, j5])
    (fun i => by rw [t6, e130, e146, a1 129 (by decide), kz, j5])
    (fun i => by rw [t7, e146, e130, kz])
    (fun i => by rw [t8, a1 147 (by decide), kz, j5])
    (fun i => by rw [t9, a1 149 (by decide), kz])
    (fun i => by rw [t10, a1 150 (by decide), kz])
    (fun i => by rw [t11, a1 151 (by decide), kz])
  have e61 : mi_f h2 13961 = mi_f h0 13961 := me_f (c := 13961) F2 hS0 rfl rfl
  have e63 : mi_f h2 13963 = mi_f h0 13963 := (me_f (c := 13963) t2 g1 rfl rfl).trans (me_f (c := 13963) g3 hS0 rfl rfl)
  have e65 : mi_f h2 13965 = mi_f h0 13965 := (me_f (c := 13965) t2 g1 rfl rfl).trans (me_f (c := 13965) g3 hS0 rfl rfl)
  have e3 : mi_f h2 14003 = 0 := (me_f (c := 14003) t2 g1 rfl rfl).trans g2
  have ef : mi_f h2 13960 = 0 := ((me_f (c := 13960) t2 g1 rfl rfl).trans (me_f (c := 13960) g3 hS0 rfl rfl)).trans hf
  have ea : mi_f h2 14000 = mi_f h0 14000 := (me_f (c := 14000) t2 g1 rfl rfl).trans (me_f (c := 14000) g3 hS0 rfl rfl)
  have g146 : ∀ i, mi_a h2 146 i = mi_a h0 146 i := fun i => (me_a (k := 146) t2 g1 rfl rfl).trans (e146 i)
  have F3 : ab_Fr [(13964, 13965), (14003, 14004), (16128, 16641), (18816, 19329)] h0 h2 := (g3.wide (fun c hc => ab_swr_ok (by decide) hc)).trans (t2.wide (fun c hc => ab_swr_ok (by decide) hc))
  refine mt_fmB t1 (fun h3 g4 g5 => ?_)
  have e := me_nil g5
  subst e
  refine fx_loop (d := d) hS0 302 0 1 0 0 1 none none none h3 (by decide) (by decide) (by decide) fm_in1 fm_in0 fm_in0 fm_in1 me_on me_on me_on (fx_run (by decide) ⟨t1, F2, by omega, fun _ => ⟨by omega, fun x => absurd x (by decide), Y, _, ⟨BG, by omega, by omega, ?_, ?_, by omega, rs_Rt j8 F2 hS0 rfl (fun _ x => x) (rs_Pf j8 F3 hS0 rfl), fun f x0 x1 => ?_⟩, ?_, ?_⟩⟩ ef ⟨by omega, by omega, lc_okf hl hS0 F3 (by decide), _, 0, R2, ?_⟩)
  · show rd_a z + 1 = _
    omega
  · show mi_f h3 13964 + 0 ≤ _
    omega
  · rw [t7, e146, e130]
    by_cases c : f.toNat = (mi_a h0 146 0).toNat
    · rw [if_pos c, c, j10]
      decide
    · rw [if_neg c]
      exact j9 f x0 (by omega)
  · show rd_k z = _
    omega
  · rw [g146]
    exact j11
  · rw [ea]
    rfl
theorem rx68 {n a e zp zn : Int} {c : Nat → Int} (hn : mi_f h 13953 = n) (hc : mi_a h 110 = c) (hq : RQ g h) (hl : lc_ok h) (han : e ≤ n) (tk1 : tk_T n c a 2 zn zp e) (u1 : g 115 zn.toNat < 0) (tk2 : tk_T n c e (mi_f h 14001) (mx_l h 14004).toInt (mi_f h 14002) (mi_f h 14000)) (hI : rs_B h Y z 0) (hS : ab_Sh sx_sk h) (hf : mi_f h 13960 = 0) (hR : sn_R h) (r10 : mi_f h 13961 ≠ 10) (p0 : 0 ≤ zp) (p1 : zp ≤ 241) (n0 : 0 ≤ zn) (n1 : zn < 26) : me_E (d + 14) 183 68 [some (.inr (.inr 109)), some (.inl zp), some (.inl zn)] [] h (rx_Q n c g a) := by
  have op : mi_in zp := ⟨by omega, by omega⟩
  have on : mi_in zn := ⟨by omega, by omega⟩
  have bU := me_fb (c := 13963) hS rfl
  have bF := me_fb (c := 13965) hS rfl
  have bR := me_fb (c := 13961) hS rfl
  have gR : g 0 3 = mi_f h 13961 := hq.1.2.2.2.1
  obtain ⟨i1, i2, i3, i4, i5, i6, i7, i9⟩ := hI
  have kk := tk_f han tk2
  refine mt_rrC hS op on ?_ ?_
  · intro b b2 c61
    refine ⟨⟨⟨by omega, by omega⟩, ⟨by omega, by omega⟩, ⟨by omega, by omega⟩⟩, fun h1 g1 g2 g3 g4 g5 => ?_⟩
    have eF1 : mi_f h1 13965 = mi_f h 13965 := me_f (c := 13965) g5 hS rfl rfl
    have eR1 : mi_f h1 13961 = mi_f h 13961 := me_f (c := 13961) g5 hS rfl rfl
    refine ⟨_, me_newForm (d := d + 13) g1 (by omega), fun w h2 oww hq2 => ?_⟩
    obtain ⟨rfl, p2, p3, p4, p5, p6⟩ := hq2
    have eR2 : mi_f h2 13961 = mi_f h 13961 := (me_f (c := 13961) p3 g1 rfl rfl).trans eR1
    refine mt_rrD (zz := mi_f h1 13965) (z0 := 0) p2 op on ⟨by omega, by omega⟩ fm_in0 ?_
    intro b3
    refine ⟨⟨⟨by omega, by omega⟩, ⟨by omega, by omega⟩, ⟨by omega, by omega⟩, ⟨by rw [if_pos rfl]; omega, by rw [if_pos rfl]; omega⟩, ⟨by omega, by omega⟩, ⟨by omega, by omega⟩⟩, fun h3 r1 r2 r3 r4 r5 => ?_⟩
    have F3a : ab_Fr [(13961, 13962), (13965, 13966), (14003, 14004), (14464, 14721), (16512, 16513), (16640, 16641), (18688, 18689)] h h3 := ((g5.wide (fun c hc => ab_swr_ok (by decide) hc)).trans (p3.wide (fun c hc => ab_swr_ok (by decide) hc))).trans (r5.wide (fun c hc => ab_swr_ok (by decide) hc))
    have ef3 : mi_f h3 13960 = 0 := (me_f (c := 13960) F3a hS rfl rfl).trans hf
    have ea3 : mi_f h3 14000 = mi_f h 14000 := me_f (c := 14000) F3a hS rfl rfl
    have eU3 : mi_f h3 13963 = mi_f h 13963 := me_f (c := 13963) F3a hS rfl rfl
    have eA3 : mi_f h3 13964 = mi_f h 13964 := me_f (c := 13964) F3a hS rfl rfl
    have eF3 : mi_f h3 13965 = mi_f h 13965 + 1 := by rw [me_f (c := 13965) r5 p2 rfl rfl, p4, eF1]
    have eR3 : mi_f h3 13961 = mi_f h 13961 + 1 := by rw [r2, eR2]
    have e53 : mi_f h3 14003 = 0 := by rw [me_f (c := 14003) r5 p2 rfl rfl, me_f (c := 14003) p3 g1 rfl rfl, g2]
    have G129 : ∀ i, mi_a h3 129 i = if i = (mi_f h 13965).toNat then -1 else mi_a h 129 i := fun i => by rw [me_a (k := 129) r5 p2 rfl rfl, p5, eF1, me_a (k := 129) g5 hS rfl rfl]
    have G130 : ∀ i, mi_a h3 130 i = if i = (mi_f h 13965).toNat then 0 else mi_a h 130 i := fun i => by rw [me_a (k := 130) r5 p2 rfl rfl, p6, eF1, me_a (k := 130) g5 hS rfl rfl]
    have G146a : ∀ i, mi_a h3 146 i = if i = 0 then mi_f h 13965 else mi_a h 146 i := fun i => by rw [r4, eF1, me_a (k := 146) p3 g1 rfl rfl, me_a (k := 146) g5 hS rfl rfl]; rfl
    have G146 : mi_a h3 146 0 = mi_f h 13965 := by rw [r4, if_pos (show 0 = Int.toNat 0 from rfl), eF1]
    have G114 : ∀ i, mi_a h3 114 i = if i = (mi_f h 13961).toNat then mi_f h 13965 else mi_a h 114 i := fun i => by rw [r3, if_pos rfl, eF1, eR2, me_a (k := 114) p3 g1 rfl rfl, me_a (k := 114) g5 hS rfl rfl]
    have G115 : ∀ i, mi_a h3 115 i = if i = zn.toNat then mi_f h 13961 else mi_a h 115 i := fun i => by rw [me_a (k := 115) r5 p2 rfl rfl, me_a (k := 115) p3 g1 rfl rfl, g4]
    have G113 : ∀ i, mi_a h3 113 i = if i = (mi_f h 13961).toNat then zp else mi_a h 113 i := fun i => by rw [me_a (k := 113) r5 p2 rfl rfl, me_a (k := 113) p3 g1 rfl rfl, g3]
    have R3 := RQ_rule (v := zn) (p := zp) hq hS F3a eF3 eR3 e53 G113 G114 G115 G129 G130 G146a
    obtain ⟨J, LR⟩ := rd_rule (g' := mi_a h3) i1 (by omega) (me_as _ F3a hS (by decide)) (fun i => by rw [i3]; exact G129 i) (fun i => by rw [i3]; exact G130 i) (by rw [G146, i3])
    have at1 := hR.2.1 (by omega) (by omega)
    have ke := kk.2.2.1 (by omega) (by omega)
    have en3 : mi_f h3 13953 = n := (me_f (c := 13953) F3a hS rfl rfl).trans hn
    have ec3 : mi_a h3 110 = c := (funext (fun i => me_a (k := 110) F3a hS rfl rfl)).trans hc
    refine ⟨_, me_formx (d := d + 1) (Y := rd_yr Y) (z := rd_zr z) r1 ef3 (by omega) ⟨J, rfl, ?_, ?_, ?_, by omega, by omega, ⟨fun r x0 x1 => ?_, fun n hn => ?_, ?_⟩, fun f x0 x1 => ?_, ?_, ?_⟩ R3 (lc_okf hl hS F3a (by decide)) (by omega), fun w h4 oww hq2 => ?_⟩
    · show wk_u Y = _
      omega
    · show wk_f Y + 1 = _
      omega
    · show rd_a z = _
      omega
    · rw [G114]
      by_cases c2 : r.toNat = (mi_f h 13961).toNat
      · rw [if_pos c2, ← i3]
        exact LR
      · rw [if_neg c2]
        obtain ⟨y1, y2, y3⟩ := i7.1 r x0 (by omega)
        refine ⟨y1, ?_, ?_⟩
        · show _ < wk_f Y + 1
          omega
        · show (if mi_a h 114 r.toNat = wk_f Y then 60 else wk_x Y (mi_a h 114 r.toNat)) - (if mi_a h 114 r.toNat = wk_f Y then wk_u Y - 1 else wk_b Y (mi_a h 114 r.toNat)) ≤ 61
          rw [if_neg (by omega), if_neg (by omega)]
          exact y3
    · rw [G115, eR3]
      have := i7.2.1 n hn
      split <;> omega
    · exact rs_Pf i7 F3a hS rfl
    · rw [G130]
      by_cases c2 : f.toNat = (mi_f h 13965).toNat
      · rw [if_pos c2]
        decide
      · rw [if_neg c2]
        exact i9 f x0 (by omega)
    · rw [G146, G130, if_pos rfl]
    · show (if mi_a h3 146 0 = wk_f Y then wk_u Y - 1 else wk_b Y (mi_a h3 146 0)) < wk_u Y
      rw [if_pos (by omega)]
      omega
    · obtain ⟨⟨rfl, v1, v2, v3, v4⟩, v5, v6⟩ := hq2
      unfold fx_D at v5
      unfold fx_B at v6
      rw [en3, ec3, ea3] at v5
      rw [en3, ec3, ea3] at v6
      rw [c61] at tk2
      refine mt_rr151 v1 op on (fun h5 u1' u2 => ?_)
      have e := me_nil u2
      subst e
      have eR5 : mi_f h5 13961 = mi_f h3 13961 := me_f (c := 13961) v2 r1 rfl rfl
      refine ⟨fun x => ?_, fun x => ?_⟩
      · obtain ⟨y1, y2, y, y3, y4⟩ := v5 x
        exact ⟨y1, y2, by omega, y.1, ⟨zn, zp, e, _, _, _, y, tk1, u1, by show g 0 3 ≠ 10; omega, tk2, y3, rfl⟩, y4⟩
      · exact ⟨2, zn, zp, e, tk1, fun y => absurd y.1 (by decide), Or.inr (Or.inr (Or.inr ⟨rfl, u1, by show g 0 3 ≠ 10; omega, _, _, _, _, tk2, Or.inr ⟨rfl, v6 x⟩⟩))⟩
  · intro b c61 h1 g1 g2
    have e := me_nil g2
    subst e
    refine ⟨_, me_blamex (d := d + 13) hS (by decide) (by decide) (by have := hR.1; omega) (by have := hR.1; omega) (by omega), fun w h2 oww hq2 => ?_⟩
    obtain ⟨rfl, t1, t2, t3⟩ := hq2
    refine mt_rr86 t1 op on (fun h3 g1 g2 => ?_)
    have e := me_nil g2
    subst e
    have p0' := hR.1
    refine ⟨fun x => by omega, fun x => ?_⟩
    rw [t3]
    exact ⟨2, zn, zp, _, tk1, fun y => absurd y.1 (by decide), Or.inr (Or.inr (Or.inr ⟨rfl, u1, by show g 0 3 ≠ 10; omega, _, _, _, _, tk2, Or.inl ⟨c61, rfl⟩⟩))⟩
theorem me_rulex {n a : Int} {c : Nat → Int} (hn : mi_f h 13953 = n) (hc : mi_a h 110 = c) (hq : RQ g h) (hl : lc_ok h) (han : a ≤ n) (tk : tk_T n c a (mi_f h 14001) (mx_l h 14004).toInt (mi_f h 14002) (mi_f h 14000)) (nE : ¬ (mi_f h 14001 = 0 ∧ mi_f h 13961 ≠ 0)) (hI : rs_B h Y z 0) (hS : ab_Sh sx_sk h) (hf : mi_f h 13960 = 0) (hR : sn_R h) : me_E (d + 14) 183 0 [some (.inr (.inr 109)), none, none] [] h (rx_Q n c g a) := by
  have bp := hR.1
  have op : mi_in (mi_f h 14002) := ⟨by omega, by omega⟩
  have gR : g 0 3 = mi_f h 13961 := hq.1.2.2.2.1
  have kk := tk_f han tk
  have nE' : ¬ (mi_f h 14001 = 0 ∧ g 0 3 ≠ 0) := by rw [gR]; exact nE
  refine mt_rrA hS ?_ ?_
  · intro b c2 h1 g1 g2
    have e := me_nil g2
    subst e
    obtain ⟨n0, n1⟩ := hR.2.2.1 c2
    have on : mi_in ((mx_l h1 14004).toInt32.toInt) := ⟨by omega, by omega⟩
    have v26 := kk.2.2.2.1 c2
    have ev : (mx_l h1 14004).toInt32.toInt = (mx_l h1 14004).toInt := tx_32 v26.1 (by omega)
    have ke := kk.2.2.1 (by omega) (by omega)
    have g115 : g 115 (mx_l h1 14004).toInt.toNat = mi_a h1 115 ((mx_l h1 14004).toInt32.toInt).toNat := by rw [ev, hq.2.1 115 (by decide)]
    have bl : ∀ f : Int, 1 ≤ f → f ≤ 9 → ru_F n c (g, a) (f + 16 * mi_f h1 14002) → ∃ Q1, me_E (d + 13) 184 0 (mi_entry 3 [.inr (.inr 109), .inl f, .inl (mi_f h1 14002)]) [] h1 Q1 ∧ ∀ w h2, (∀ x, w = some x → mi_ok x) → Q1 w h2 → me_E (d + 14) 183 63 [some (.inr (.inr 109)), some (.inl (mi_f h1 14002)), some (.inl ((mx_l h1 14004).toInt32.toInt))] (mi_back w []) h2 (rx_Q n c g a) := fun f f1 f2 hF => by
      refine ⟨_, me_blamex (d := d + 13) hS f1 f2 (by omega) (by omega) hf, fun w h2 oww hq2 => ?_⟩
      obtain ⟨rfl, t1, t2, t3⟩ := hq2
      refine mt_rr63 t1 op on (fun h3 g1 g2 => ?_)
      have e := me_nil g2
      subst e
      exact ⟨fun x => by omega, fun x => by rw [t3]; exact hF⟩
    refine mt_rrB hS op on ?_ ?_ ?_
    · intro c3
      refine ⟨⟨n0, n1⟩, fun h3 g1 g2 => ?_⟩
      have e := me_nil g2
      subst e
      exact bl 2 (by decide) (by decide) ⟨_, _, _, _, tk, nE', Or.inr (Or.inl ⟨c2, by show 0 ≤ g 115 _; rw [g115]; exact c3, rfl⟩)⟩
    · intro b2 c3 c4
      refine ⟨⟨n0, n1⟩, fun h3 g1 g2 => ?_⟩
      have e := me_nil g2
      subst e
      refine ⟨_, (me_scan (d := d + 11) hS (hR.2.1 (by omega) (by omega))).and (me_scanx (d := d + 11) hS (by omega)), fun w h4 oww hq2 => ?_⟩
      obtain ⟨⟨rfl, r1, r2, r3⟩, -, -, -, r4⟩ := hq2
      rw [hn, hc] at r4
      have eR : mi_f h4 13961 = mi_f h3 13961 := me_f (c := 13961) r2 hS rfl rfl
      have ef : mi_f h4 13960 = 0 := (me_f (c := 13960) r2 hS rfl rfl).trans hf
      rw [c2] at tk
      rw [ev]
      exact rx68 ((me_f (c := 13953) r2 hS rfl rfl).trans hn) ((funext (fun i => me_a (k := 110) r2 hS rfl rfl)).trans hc) (RQ_same hq hS r2 (by decide)) (lc_okf hl hS r2 (by decide)) (by omega) tk (by rw [g115]; exact c3) r4 (rs_Bfr hI hS r2 (by decide)) r1 ef r3 (by omega) bp.1 bp.2 (by omega) (by omega)
    · intro b2 c3 c4
      refine ⟨⟨n0, n1⟩, fun h3 g1 g2 => ?_⟩
      have e := me_nil g2
      subst e
      exact bl 3 (by decide) (by decide) ⟨_, _, _, _, tk, nE', Or.inr (Or.inr (Or.inl ⟨c2, by show g 115 _ < 0; rw [g115]; exact c3, by show g 0 3 = 10; omega, rfl⟩))⟩
  · intro b c2 h1 g1 g2
    have e := me_nil g2
    subst e
    have x1 := (mx_l h1 14004).toInt32.le_toInt
    have x2 := (mx_l h1 14004).toInt32.toInt_lt
    refine ⟨_, me_blamex (d := d + 13) hS (by decide) (by decide) (by omega) (by omega) hf, fun w h2 oww hq2 => ?_⟩
    obtain ⟨rfl, t1, t2, t3⟩ := hq2
    refine mt_rr25 t1 op ⟨by omega, by omega⟩ (fun h3 g1 g2 => ?_)
    have e := me_nil g2
    subst e
    exact ⟨fun x => by omega, fun x => by rw [t3]; exact ⟨_, _, _, _, tk, nE', Or.inl ⟨c2, rfl⟩⟩⟩
end RXF
/-! the reference's read, exactly -/
def rz_Q (n : Int) (c : Nat → Int) (_ : Option mi_V) (h' : sm_H) : Prop := ∃ g0, rz_0 g0 ∧ 0 ≤ mi_f h' 13960 ∧ (mi_f h' 13960 = 0 → lc_ok h' ∧ ∃ g, rz_D n c g0 g ∧ rz_U g ∧ RQ g h') ∧ (mi_f h' 13960 ≠ 0 → rz_B n c g0 (mi_f h' 13960))
def rz_V (n : Int) (c : Nat → Int) (g0 : wk_g) (h : sm_H) (zt : Int) : Prop := ab_Sh sx_sk h ∧ 0 ≤ mi_f h 13960 ∧ (mi_f h 13960 = 0 → lc_ok h ∧ (∃ Y z, rs_B h Y z 0) ∧ ∃ g, rz_D n c g0 g ∧ RQ g h ∧ ∀ u : Nat, (u : Int) < zt → (u : Int) < g 0 0 → g 119 u = 9 → 0 ≤ g 115 (g 120 u).toNat) ∧ (mi_f h 13960 ≠ 0 → rz_B n c g0 (mi_f h 13960))
section RZX
variable {n : Int} {c : Nat → Int} {g0 : wk_g}
theorem rz117 (h0 : rz_0 g0) : ∀ (N : Nat) (zm zt : Int) (h : sm_H), 60 - zt < N → 0 ≤ zt → zt ≤ 60 → mi_in zm → rz_V n c g0 h zt → me_E 59 176 117 [some (.inr (.inr 109)), some (.inl zm), some (.inl zt)] [] h (rz_Q n c) := by
  intro N
  induction N with
  | zero => intro zm zt h hN t0 t1; exfalso; omega
  | succ N ih =>
    intro zm zt h hN t0 t1 om hH
    obtain ⟨s1, s3, s4, s5⟩ := hH
    have ot : mi_in zt := ⟨by omega, by omega⟩
    refine mt_reF (d := 43) s1 om ot ?_ ?_ ?_ ?_ ?_
    · intro b c1 h1 g1 g2
      have e := me_nil g2
      subst e
      refine ⟨g0, h0, s3, fun x => ?_, s5⟩
      obtain ⟨y1, -, g, y2, y3, y4⟩ := s4 x
      have gU : g 0 0 = mi_f h1 13963 := y3.1.1
      exact ⟨y1, g, y2, fun u u1 u2 => y4 u (by omega) u1 u2, y3⟩
    · intro b b2 c1 c2 h1 g1 g2
      have e := me_nil g2
      subst e
      exact ⟨g0, h0, s3, fun x => absurd x c2, s5⟩
    · intro b b2 c1 c2 c3
      refine ⟨⟨⟨by omega, by omega⟩, ⟨by omega, by omega⟩⟩, fun h1 g1 g2 => ?_⟩
      have e := me_nil g2
      subst e
      refine ih zm (zt + 1) h1 (by omega) (by omega) (by omega) om ⟨s1, s3, fun x => ?_, s5⟩
      obtain ⟨y1, yB, g, y2, y3, y4⟩ := s4 x
      refine ⟨y1, yB, g, y2, y3, fun u u1 u2 u3 => ?_⟩
      by_cases e : u = zt.toNat
      · rw [e, y3.2.1 119 (by decide)] at u3
        exact absurd u3 c3
      · exact y4 u (by omega) u2 u3
    · intro b b2 c1 c2 c3 c4
      obtain ⟨y1, ⟨Y, z, yB⟩, g, y2, y3, y4⟩ := s4 c2
      have w4 := (yB.1.2.1 zt t0 (by have := yB.2.1; omega)).2.2.2.1 c3
      refine ⟨⟨⟨by omega, by omega⟩, w4, ⟨by omega, by omega⟩⟩, fun h1 g1 g2 => ?_⟩
      have e := me_nil g2
      subst e
      refine ih zm (zt + 1) h1 (by omega) (by omega) (by omega) om ⟨s1, s3, fun x => ⟨y1, ⟨Y, z, yB⟩, g, y2, y3, fun u u1 u2 u3 => ?_⟩, s5⟩
      by_cases e : u = zt.toNat
      · rw [e, y3.2.1 120 (by decide), y3.2.1 115 (by decide)]
        exact c4
      · exact y4 u (by omega) u2 u3
    · intro b b2 c1 c2 c3 c4
      obtain ⟨y1, ⟨Y, z, yB⟩, g, y2, y3, y4⟩ := s4 c2
      have gU : g 0 0 = mi_f h 13963 := y3.1.1
      have w4 := (yB.1.2.1 zt t0 (by have := yB.2.1; omega)).2.2.2.1 c3
      have w5 := yB.2.2.2.2.2.2.1.2.2 zt t0 c1
      refine ⟨⟨⟨by omega, by omega⟩, w4⟩, fun h1 g1 g2 => ?_⟩
      have e := me_nil g2
      subst e
      refine ⟨_, me_blamex (d := 58) s1 (by decide) (by decide) (by omega) (by omega) (by omega), fun w h2 oww hq => ?_⟩
      obtain ⟨rfl, v1, v2, v3⟩ := hq
      refine mt_reG (d := 43) v1 om ot ⟨⟨by omega, by omega⟩, fun h3 g1 g2 => ?_⟩
      have e := me_nil g2
      subst e
      refine ih zm (zt + 1) h3 (by omega) (by omega) (by omega) om ⟨v1, by omega, fun x => by omega, fun _ => Or.inr ⟨g, y2, zt.toNat, by omega, ?_, ?_, fun j j1 j2 => y4 j (by omega) (by omega) j2, ?_⟩⟩
      · rw [y3.2.1 119 (by decide)]
        exact c3
      · rw [y3.2.1 120 (by decide), y3.2.1 115 (by decide)]
        exact c4
      · rw [v3, y3.2.1 121 (by decide)]
def rz_H (n : Int) (c : Nat → Int) (g0 : wk_g) (h : sm_H) (zm zt : Int) : Prop := ab_Sh sx_sk h ∧ 0 ≤ mi_f h 13960 ∧ mi_f h 13953 = n ∧ mi_a h 110 = c ∧ (mi_f h 13960 = 0 → zm ≠ 0 → mi_f h 14000 ≤ n ∧ mi_f h 14000 ≤ 241 ∧ lc_ok h ∧ mi_f h 13961 = zt ∧ (∃ Y z, rs_B h Y z 0) ∧ ∃ g k, RQ g h ∧ ru_Tr n c k (g0, 0) (g, mi_f h 14000)) ∧ (mi_f h 13960 = 0 → zm = 0 → lc_ok h ∧ (∃ Y z, rs_B h Y z 0) ∧ ∃ g, rz_D n c g0 g ∧ RQ g h) ∧ (mi_f h 13960 ≠ 0 → rz_R n c g0 (mi_f h 13960))
theorem rz60 (h0 : rz_0 g0) : ∀ (N : Nat) (zm zt : Int) (h : sm_H), 12 - zt < N → 0 ≤ zt → zt ≤ 12 → mi_in zm → rz_H n c g0 h zm zt → me_E 59 176 60 [some (.inr (.inr 109)), some (.inl zm), some (.inl zt)] [] h (rz_Q n c) := by
  intro N
  induction N with
  | zero => intro zm zt h hN t0 t1; exfalso; omega
  | succ N ih =>
    intro zm zt h hN t0 t1 om hH
    obtain ⟨s1, s3, sn, sc, s4, s5, s6⟩ := hH
    have ot : mi_in zt := ⟨by omega, by omega⟩
    have bR := me_fb (c := 13961) s1 rfl
    have fin : (mi_f h 13960 = 0 → zm ≠ 0 → False) → ∀ h1, ab_Sh sx_sk h1 → ab_Fr [] h h1 → me_E 59 176 117 [some (.inr (.inr 109)), some (.inl zm), some (.inl 0)] [] h1 (rz_Q n c) := fun no h1 g1 g2 => by
      have e := me_nil g2
      subst e
      refine rz117 h0 62 zm 0 h1 (by decide) (by decide) (by decide) om ⟨s1, s3, fun x => ?_, fun x => Or.inl (s6 x)⟩
      by_cases cz : zm = 0
      · obtain ⟨y1, y2, g, y3, y4⟩ := s5 x cz
        exact ⟨y1, y2, g, y3, y4, fun u u1 => by omega⟩
      · exact (no x cz).elim
    refine mt_reC (d := 43) s1 om ot ?_ ?_ ?_ ?_
    · intro c1
      exact fin (fun x y => by have := (s4 x y).2.2.2.1; omega)
    · intro c1 c2
      exact fin (fun x y => y c2)
    · intro b c1 c2 c3
      exact fin (fun x y => c3 x)
    · intro b c1 c2 c3 h1 g1 g2
      have e := me_nil g2
      subst e
      obtain ⟨y1, y1b, y2, y2r, ⟨Y, z, y3⟩, g, k, y4, y5⟩ := s4 c3 c2
      refine ⟨_, (me_scan (d := 56) s1 y1b).and (me_scanx (d := 56) s1 (by omega)), fun w h2 oww hq => ?_⟩
      obtain ⟨⟨rfl, r1, r2, r3⟩, -, -, -, r4⟩ := hq
      rw [sn, sc] at r4
      have ef : mi_f h2 13960 = 0 := (me_f (c := 13960) r2 s1 rfl rfl).trans c3
      have en2 : mi_f h2 13953 = n := (me_f (c := 13953) r2 s1 rfl rfl).trans sn
      have ec2 : mi_a h2 110 = c := (funext (fun i => me_a (k := 110) r2 s1 rfl rfl)).trans sc
      have eR2 : mi_f h2 13961 = mi_f h1 13961 := me_f (c := 13961) r2 s1 rfl rfl
      have B2 := rs_Bfr y3 s1 r2 (by decide)
      have Q2 := RQ_same y4 s1 r2 (by decide)
      have L2 := lc_okf y2 s1 r2 (by decide)
      have gR : g 0 3 = mi_f h2 13961 := Q2.1.2.2.2.1
      have ru : ¬ (mi_f h2 14001 = 0 ∧ mi_f h2 13961 ≠ 0) → ∃ Q1, me_E 58 183 0 (mi_entry 3 [.inr (.inr 109)]) [] h2 Q1 ∧ ∀ w h3, (∀ x, w = some x → mi_ok x) → Q1 w h3 → me_E 59 176 109 [some (.inr (.inr 109)), some (.inl 1), some (.inl zt)] (mi_back w []) h3 (rz_Q n c) := fun nE => by
        refine ⟨_, (me_rule (d := 44) B2 r1 ef r3).and (me_rulex (d := 44) en2 ec2 Q2 L2 y1 r4 nE B2 r1 ef r3), fun w h3 oww hq => ?_⟩
        obtain ⟨⟨rfl, v1, v2, v3, v4⟩, v5, v6⟩ := hq
        refine mt_reE (d := 43) v1 fm_in1 ot ⟨⟨by omega, by omega⟩, fun h4 g1 g2 => ?_⟩
        have e := me_nil g2
        subst e
        refine ih 1 (zt + 1) h4 (by omega) (by omega) (by omega) fm_in1 ⟨v1, v3, (me_f (c := 13953) v2 r1 rfl rfl).trans en2, (funext (fun i => me_a (k := 110) v2 r1 rfl rfl)).trans ec2, fun x _ => ?_, fun _ x => absurd x (by decide), fun x => ⟨k, _, y5, v6 x⟩⟩
        obtain ⟨x1, x2, x3⟩ := v4 x
        obtain ⟨w1, w2, w3, g', w4, w5⟩ := v5 x
        exact ⟨w1, x1, w2, by omega, x3, g', k + 1, w5, ru_snoc k _ y5 w4⟩
      refine mt_reD (d := 43) r1 om ot ?_ ?_ ?_
      · intro b c4 h3 g1 g2
        have e := me_nil g2
        subst e
        exact ru (fun x => c4 x.1)
      · intro b b2 c4 c5
        refine ⟨⟨by omega, by omega⟩, fun h3 g1 g2 => ?_⟩
        have e := me_nil g2
        subst e
        rw [c4] at r4
        exact ih 0 (zt + 1) h3 (by omega) (by omega) (by omega) fm_in0 ⟨r1, by omega, en2, ec2, fun _ x => absurd rfl x, fun _ _ => ⟨L2, ⟨Y, z, B2⟩, g, ⟨k, _, y5, ⟨_, _, _, r4⟩, by show g 0 3 ≠ 0; omega⟩, Q2⟩, fun x => absurd ef x⟩
      · intro b b2 c4 c5 h3 g1 g2
        have e := me_nil g2
        subst e
        exact ru (fun x => x.2 c5)
def rz_A (n : Int) (c : Nat → Int) (h : sm_H) (zk : Int) : Prop := ab_Sh sx_sk h ∧ mi_f h 13953 = n ∧ mi_a h 110 = c ∧ (mi_f h 13960 = 0 ∧ mi_f h 13961 = 0 ∧ mi_f h 13962 = 0 ∧ mi_f h 13963 = 0 ∧ mi_f h 13964 = 0 ∧ mi_f h 13965 = 0 ∧ mi_f h 14000 = 0) ∧ ∀ n : Nat, (n : Int) < zk → mi_a h 115 n = -1
theorem rz37 : ∀ (N : Nat) (zk : Int) (h : sm_H), 26 - zk < N → 0 ≤ zk → zk ≤ 26 → rz_A n c h zk → me_E 59 176 37 [some (.inr (.inr 109)), some (.inl zk), none] [] h (rz_Q n c) := by
  intro N
  induction N with
  | zero => intro zk h hN t0 t1; exfalso; omega
  | succ N ih =>
    intro zk h hN t0 t1 hH
    obtain ⟨s1, sn, sc, ⟨a1, a2, al, a3, a4, a5, a6⟩, s4⟩ := hH
    have ok : mi_in zk := ⟨by omega, by omega⟩
    have bn := me_fb (c := 13953) s1 rfl
    refine mt_reB (d := 43) s1 ok ?_ ?_
    · intro c1 h1 g1 g2
      have e := me_nil g2
      subst e
      have Q0 := RQ_g h1
      have z0 : rz_0 (rk_g h1) := by
        refine ⟨⟨Q0.1.1.trans a3, Q0.1.2.1.trans a4, Q0.1.2.2.1.trans a5, Q0.1.2.2.2.1.trans a2, Q0.1.2.2.2.2.1.trans al⟩, fun i hi => ?_⟩
        rw [Q0.2.1 115 (by decide)]
        exact s4 i (by omega)
      refine rz60 z0 14 1 0 h1 (by decide) (by decide) (by decide) fm_in1 ⟨s1, by omega, sn, sc, fun _ _ => ⟨by omega, by omega, fun k hk => by omega, by omega, ⟨re_Y0, re_Z0, re_I0 _, ?_, ?_, ?_, by omega, by omega, ⟨fun r x0 x1 => by omega, fun n hn => ?_, fun u x0 x1 => by omega⟩, fun f x0 x1 => by omega⟩, rk_g h1, 0, Q0, ?_⟩, fun _ x => absurd x (by decide), fun x => absurd a1 x⟩
      · show (0 : Int) = _
        omega
      · show (0 : Int) = _
        omega
      · show (0 : Int) = _
        omega
      · rw [s4 n (by omega)]
        omega
      · rw [a6]
        rfl
    · intro c1
      refine ⟨⟨⟨by omega, by omega⟩, ⟨by omega, by omega⟩⟩, fun h1 g1 g2 g3 => ?_⟩
      refine ih (zk + 1) h1 (by omega) (by omega) (by omega) ⟨g1, (me_f (c := 13953) g3 s1 rfl rfl).trans sn, (funext (fun i => me_a (k := 110) g3 s1 rfl rfl)).trans sc, ⟨?_, ?_, ?_, ?_, ?_, ?_, ?_⟩, fun n hn => ?_⟩
      · rw [me_f (c := 13960) g3 s1 rfl rfl, a1]
      · rw [me_f (c := 13961) g3 s1 rfl rfl, a2]
      · rw [me_f (c := 13962) g3 s1 rfl rfl, al]
      · rw [me_f (c := 13963) g3 s1 rfl rfl, a3]
      · rw [me_f (c := 13964) g3 s1 rfl rfl, a4]
      · rw [me_f (c := 13965) g3 s1 rfl rfl, a5]
      · rw [me_f (c := 14000) g3 s1 rfl rfl, a6]
      · rw [g2]
        by_cases c2 : n = zk.toNat
        · rw [if_pos c2]
        · rw [if_neg c2]
          exact s4 n (by omega)
end RZX
theorem me_readx {h : sm_H} (hS : ab_Sh sx_sk h) : me_E 59 176 0 [some (.inr (.inr 109)), none, none] [] h (rz_Q (mi_f h 13953) (mi_a h 110)) := by
  refine mt_reA (d := 43) hS (fun h1 g1 g2 g3 g4 g5 g6 g7 g8 g9 => ?_)
  exact rz37 28 0 h1 (by decide) (by decide) (by decide) ⟨g1, me_f (c := 13953) g9 hS rfl rfl, funext (fun i => me_a (k := 110) g9 hS rfl rfl), ⟨g2, g3, g4, g5, g6, g7, g8⟩, fun n hn => by omega⟩
