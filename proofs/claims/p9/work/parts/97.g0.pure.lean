/-! READING, purely: what the reference's rows become. Row 0: units, alternatives, forms, rules, literals, open; row 117: the literals' codes -/
section RFB
variable {d : Nat} {h : sm_H}
theorem me_beginx {zp : Int} (hS : ab_Sh sx_sk h) (op : mi_in zp) (ha : mi_f h 13964 < 80) (hk : mi_f h 14003 < 6) (hf0 : 0 ≤ mi_a h 146 (mi_f h 14003).toNat) (hf1 : mi_a h 146 (mi_f h 14003).toNat < 80) (hc : mi_a h 130 (mi_a h 146 (mi_f h 14003).toNat).toNat ≤ 6) (hb : mi_a h 130 (mi_a h 146 (mi_f h 14003).toNat).toNat ≠ 0 → 0 ≤ mi_a h 147 (mi_f h 14003).toNat ∧ mi_a h 147 (mi_f h 14003).toNat < 80) : me_E d 187 0 [some (.inr (.inr 109)), some (.inl zp), none, none] [] h (fun w h' => w = none ∧ ab_Sh sx_sk h' ∧ ab_Fr bg_W h h' ∧ bg_R h h' ∧ ∀ i, mi_a h' 127 i = if i = (mi_f h 13964).toNat then zp else mi_a h 127 i) := by
  have b130 := me_ab (k := 130) (i := (mi_a h 146 (mi_f h 14003).toNat).toNat) hS rfl (by decide) (by omega)
  have b3 := me_fb (c := 14003) hS rfl
  have b4 := me_fb (c := 13964) hS rfl
  refine mt_bgA hS op ?_ ?_
  · intro b1 b2 c
    have hb := hb c
    refine ⟨by omega, fun h1 g1 g2 g3 g4 g5 g6 => ?_⟩
    have e3 : mi_f h1 14003 = mi_f h 14003 := me_f (c := 14003) g6 hS rfl rfl
    have e130 : ∀ i, mi_a h1 130 i = mi_a h 130 i := fun i => me_a (k := 130) g6 hS rfl rfl
    refine mt_bgB g1 op ⟨by omega, by omega⟩ ⟨by omega, by omega⟩ ?_
    intro b5
    refine ⟨by rw [e130]; omega, fun h2 r1 r2 r3 r4 r5 r6 r7 => ⟨rfl, r1, (g6.wide (fun c hc => ab_swr_ok (by decide) hc)).trans (r7.wide (fun c hc => ab_swr_ok (by decide) hc)), ⟨(me_f (c := 13964) r7 g1 rfl rfl).trans g2, fun i => ?_, fun i => ?_, fun i => ?_, fun i => ?_, fun i => ?_, fun i => ?_, fun i => ?_, fun i => ?_⟩, fun i => ?_⟩⟩
    · rw [me_a (k := 126) r7 g1 rfl rfl, g3]
    · rw [me_a (k := 128) r7 g1 rfl rfl, g5]
      by_cases e : i = (mi_a h 147 (mi_f h 14003).toNat).toNat
      · rw [if_pos e, if_pos ⟨c, e⟩]
      · rw [if_neg e, if_neg (c := mi_a h 130 (mi_a h 146 (mi_f h 14003).toNat).toNat ≠ 0 ∧ i = (mi_a h 147 (mi_f h 14003).toNat).toNat) (fun z => e z.2)]
    · rw [me_a (k := 129) r7 g1 rfl rfl, me_a (k := 129) g6 hS rfl rfl, if_neg (fun z => c z.1)]
    · rw [r2, e130, e130]
      by_cases e : i = (mi_a h 146 (mi_f h 14003).toNat).toNat
      · rw [if_pos e, if_pos e, e]
      · rw [if_neg e, if_neg e]
    · rw [r3, e3, me_a (k := 147) g6 hS rfl rfl]
    · rw [r4, e3, me_a (k := 149) g6 hS rfl rfl]
    · rw [r5, e3, me_a (k := 150) g6 hS rfl rfl]
    · rw [r6, e3, me_a (k := 151) g6 hS rfl rfl]
    · rw [me_a (k := 127) r7 g1 rfl rfl, g4]
  · intro b1 b2 c
    refine ⟨by omega, fun h1 g1 g2 g3 g4 g5 g6 g7 => ?_⟩
    have e3 : mi_f h1 14003 = mi_f h 14003 := me_f (c := 14003) g7 hS rfl rfl
    have e130 : ∀ i, mi_a h1 130 i = mi_a h 130 i := fun i => me_a (k := 130) g7 hS rfl rfl
    refine mt_bgB g1 op ⟨by omega, by omega⟩ ⟨by omega, by omega⟩ ?_
    intro b5
    refine ⟨by rw [e130]; omega, fun h2 r1 r2 r3 r4 r5 r6 r7 => ⟨rfl, r1, (g7.wide (fun c hc => ab_swr_ok (by decide) hc)).trans (r7.wide (fun c hc => ab_swr_ok (by decide) hc)), ⟨(me_f (c := 13964) r7 g1 rfl rfl).trans g2, fun i => ?_, fun i => ?_, fun i => ?_, fun i => ?_, fun i => ?_, fun i => ?_, fun i => ?_, fun i => ?_⟩, fun i => ?_⟩⟩
    · rw [me_a (k := 126) r7 g1 rfl rfl, g3]
    · rw [me_a (k := 128) r7 g1 rfl rfl, g5, if_neg (c := mi_a h 130 (mi_a h 146 (mi_f h 14003).toNat).toNat ≠ 0 ∧ i = (mi_a h 147 (mi_f h 14003).toNat).toNat) (fun z => z.1 c)]
    · rw [me_a (k := 129) r7 g1 rfl rfl, g6]
      by_cases e : i = (mi_a h 146 (mi_f h 14003).toNat).toNat
      · rw [if_pos e, if_pos ⟨c, e⟩]
      · rw [if_neg e, if_neg (fun z => e z.2)]
    · rw [r2, e130, e130]
      by_cases e : i = (mi_a h 146 (mi_f h 14003).toNat).toNat
      · rw [if_pos e, if_pos e, e]
      · rw [if_neg e, if_neg e]
    · rw [r3, e3, me_a (k := 147) g7 hS rfl rfl]
    · rw [r4, e3, me_a (k := 149) g7 hS rfl rfl]
    · rw [r5, e3, me_a (k := 150) g7 hS rfl rfl]
    · rw [r6, e3, me_a (k := 151) g7 hS rfl rfl]
    · rw [me_a (k := 127) r7 g1 rfl rfl, g4]
end RFB
def rk_L : List Nat := [113, 114, 115, 119, 120, 121, 122, 123, 124, 125, 126, 127, 128, 129, 130, 146, 147, 148, 149, 150, 151]
def RQ (g : wk_g) (h : sm_H) : Prop := (g 0 0 = mi_f h 13963 ∧ g 0 1 = mi_f h 13964 ∧ g 0 2 = mi_f h 13965 ∧ g 0 3 = mi_f h 13961 ∧ g 0 4 = mi_f h 13962 ∧ g 0 5 = mi_f h 14003) ∧ (∀ r, r ∈ rk_L → ∀ i, g r i = mi_a h r i) ∧ ∀ i, g 117 i = lc_r h i
/-- the rows as they lie in the cells -/
def rk_g (h : sm_H) : wk_g := fun r i => if r = 0 then (if i = 0 then mi_f h 13963 else if i = 1 then mi_f h 13964 else if i = 2 then mi_f h 13965 else if i = 3 then mi_f h 13961 else if i = 4 then mi_f h 13962 else if i = 5 then mi_f h 14003 else 0) else if r = 117 then lc_r h i else mi_a h r i
theorem RQ_g (h : sm_H) : RQ (rk_g h) h := by
  refine ⟨⟨rfl, rfl, rfl, rfl, rfl, rfl⟩, fun r hr i => ?_, fun i => rfl⟩
  unfold rk_g
  rw [if_neg (fun c => by rw [c] at hr; revert hr; decide), if_neg (fun c => by rw [c] at hr; revert hr; decide)]
def rf_new (g : wk_g) : wk_g := fun r i => if r = 0 then (if i = 2 then g 0 2 + 1 else g 0 i) else if r = 129 then (if i = (g 0 2).toNat then -1 else g 129 i) else if r = 130 then (if i = (g 0 2).toNat then 0 else g 130 i) else g r i
def rf_beg (g : wk_g) (p : Int) : wk_g := fun r i =>
  if r = 0 then (if i = 1 then g 0 1 + 1 else g 0 i)
  else if r = 126 then (if i = (g 0 1).toNat then -1 else g 126 i)
  else if r = 127 then (if i = (g 0 1).toNat then p else g 127 i)
  else if r = 128 then (if g 130 (g 146 (g 0 5).toNat).toNat ≠ 0 ∧ i = (g 147 (g 0 5).toNat).toNat then g 0 1 else if i = (g 0 1).toNat then -1 else g 128 i)
  else if r = 129 then (if g 130 (g 146 (g 0 5).toNat).toNat = 0 ∧ i = (g 146 (g 0 5).toNat).toNat then g 0 1 else g 129 i)
  else if r = 130 then (if i = (g 146 (g 0 5).toNat).toNat then g 130 i + 1 else g 130 i)
  else if r = 147 then (if i = (g 0 5).toNat then g 0 1 else g 147 i)
  else if r = 149 then (if i = (g 0 5).toNat then -1 else g 149 i)
  else if r = 150 then (if i = (g 0 5).toNat then -1 else g 150 i)
  else if r = 151 then (if i = (g 0 5).toNat then 0 else g 151 i)
  else g r i
def rf_put (g : wk_g) (u : Int) : wk_g := fun r i =>
  if r = 124 then (if g 151 (g 0 5).toNat ≠ 0 ∧ i = (g 149 (g 0 5).toNat).toNat then u else g 124 i)
  else if r = 125 then (if g 151 (g 0 5).toNat = 0 ∧ 0 ≤ g 149 (g 0 5).toNat ∧ i = (g 149 (g 0 5).toNat).toNat then u else g 125 i)
  else if r = 126 then (if g 151 (g 0 5).toNat = 0 ∧ g 149 (g 0 5).toNat < 0 ∧ i = (g 147 (g 0 5).toNat).toNat then u else g 126 i)
  else if r = 149 then (if g 151 (g 0 5).toNat = 0 ∧ i = (g 0 5).toNat then u else g 149 i)
  else if r = 150 then (if i = (g 0 5).toNat then u else g 150 i)
  else if r = 151 then (if i = (g 0 5).toNat then 0 else g 151 i)
  else g r i
/-- a unit is made: sort s, what w, place p -/
def rf_unit (g : wk_g) (s w p : Int) : wk_g := fun r i =>
  if r = 0 then (if i = 0 then g 0 0 + 1 else g 0 i)
  else if r = 119 then (if i = (g 0 0).toNat then s else g 119 i)
  else if r = 120 then (if i = (g 0 0).toNat then w else g 120 i)
  else if r = 121 then (if i = (g 0 0).toNat then p else g 121 i)
  else if r = 122 then (if i = (g 0 0).toNat then 0 else g 122 i)
  else if r = 124 then (if i = (g 0 0).toNat then -1 else g 124 i)
  else if r = 125 then (if i = (g 0 0).toNat then -1 else g 125 i)
  else g r i
/-- a literal more -/
def rf_lit (g : wk_g) (c : Int) : wk_g := fun r i => if r = 0 then (if i = 4 then g 0 4 + 1 else g 0 i) else if r = 117 then (if i = (g 0 4).toNat then c else g 117 i) else g r i
/-- a level is opened over the unit u: first the level, then (the form f is made between) its form -/
def rf_o1 (g : wk_g) (u : Int) : wk_g := fun r i => if r = 0 then (if i = 5 then g 0 5 + 1 else g 0 i) else if r = 148 then (if i = (g 0 5 + 1).toNat then u else g 148 i) else g r i
def rf_o2 (g : wk_g) (u f : Int) : wk_g := fun r i => if r = 120 then (if i = u.toNat then f else g 120 i) else if r = 146 then (if i = (g 0 5).toNat then f else g 146 i) else g r i
def rf_lvl (g : wk_g) (k : Int) : wk_g := fun r i => if r = 0 then (if i = 5 then k else g 0 i) else g r i
def rf_wrap (g : wk_g) (u w p : Int) : wk_g := fun r i => if r = 122 then (if i = u.toNat then w else g 122 i) else if r = 123 then (if i = u.toNat then p else g 123 i) else g r i
def rf_swap (g : wk_g) : wk_g := fun r i => if r = 151 then (if i = (g 0 5).toNat then 1 else g 151 i) else g r i
def rf_word (g : wk_g) (u w : Int) : wk_g := fun r i => if r = 120 then (if i = u.toNat then w else g 120 i) else g r i
section RQL
variable {g : wk_g} {h h' : sm_H}
/-- rows that are not written stay -/
theorem RQ_st (hq : RQ g h) (hS : ab_Sh sx_sk h) {wr : List (Nat × Nat)} (hF : ab_Fr wr h h') {r : Nat} (hr : r ∈ rk_L) (hA : (mx_isA sx_sk r || mx_isB sx_sk r) = true) (hn : ab_in wr (r * 128) = false) (i : Nat) : g r i = mi_a h' r i := by
  rw [me_a (k := r) hF hS hA hn]
  exact hq.2.1 r hr i
theorem lc_fr (hS : ab_Sh sx_sk h) {wr : List (Nat × Nat)} (hF : ab_Fr wr h h') (n1 : ab_in wr 14976 = false) (n2 : ab_in wr 15104 = false) (i : Nat) : lc_r h' i = lc_r h i := by
  unfold lc_r
  rw [me_a (k := 117) hF hS rfl n1, me_b (k := 118) hF hS rfl n2]
theorem RQ_put {u : Int} (hq : RQ g h) (hS : ab_Sh sx_sk h) (hF : ab_Fr pu_W h h') (hp : pu_R u h h') : RQ (rf_put g u) h' := by
  obtain ⟨⟨q0, q1, q2, q3, q4, q5⟩, qa, ql⟩ := id hq
  obtain ⟨p3, p4, p5, p6, p7, p8⟩ := hp
  have e := fun r (hr : r ∈ rk_L) => qa r hr
  refine ⟨⟨?_, ?_, ?_, ?_, ?_, ?_⟩, fun r hr i => ?_, fun i => ?_⟩
  · exact q0.trans (me_f (c := 13963) hF hS rfl rfl).symm
  · exact q1.trans (me_f (c := 13964) hF hS rfl rfl).symm
  · exact q2.trans (me_f (c := 13965) hF hS rfl rfl).symm
  · exact q3.trans (me_f (c := 13961) hF hS rfl rfl).symm
  · exact q4.trans (me_f (c := 13962) hF hS rfl rfl).symm
  · exact q5.trans (me_f (c := 14003) hF hS rfl rfl).symm
  · have k := hr
    simp only [rk_L, List.mem_cons, List.not_mem_nil, or_false] at k
    rcases k with rfl | rfl | rfl | rfl | rfl | rfl | rfl | rfl | rfl | rfl | rfl | rfl | rfl | rfl | rfl | rfl | rfl | rfl | rfl | rfl | rfl
    all_goals
      first
        | exact RQ_st hq hS hF hr rfl rfl i
        | (show (if g 151 (g 0 5).toNat ≠ 0 ∧ i = (g 149 (g 0 5).toNat).toNat then u else g 124 i) = mi_a h' 124 i
           rw [p3, q5, e 151 (by decide), e 149 (by decide), e 124 (by decide)])
        | (show (if g 151 (g 0 5).toNat = 0 ∧ 0 ≤ g 149 (g 0 5).toNat ∧ i = (g 149 (g 0 5).toNat).toNat then u else g 125 i) = mi_a h' 125 i
           rw [p4, q5, e 151 (by decide), e 149 (by decide), e 125 (by decide)])
        | (show (if g 151 (g 0 5).toNat = 0 ∧ g 149 (g 0 5).toNat < 0 ∧ i = (g 147 (g 0 5).toNat).toNat then u else g 126 i) = mi_a h' 126 i
           rw [p5, q5, e 151 (by decide), e 149 (by decide), e 147 (by decide), e 126 (by decide)])
        | (show (if g 151 (g 0 5).toNat = 0 ∧ i = (g 0 5).toNat then u else g 149 i) = mi_a h' 149 i
           rw [p6, q5, e 151 (by decide), e 149 (by decide)])
        | (show (if i = (g 0 5).toNat then u else g 150 i) = mi_a h' 150 i
           rw [p7, q5, e 150 (by decide)])
        | (show (if i = (g 0 5).toNat then 0 else g 151 i) = mi_a h' 151 i
           rw [p8, q5, e 151 (by decide)])
  · show g 117 i = _
    rw [ql, lc_fr hS hF rfl rfl]
theorem RQ_beg {p : Int} (hq : RQ g h) (hS : ab_Sh sx_sk h) (hF : ab_Fr bg_W h h') (hp : bg_R h h') (h127 : ∀ i, mi_a h' 127 i = if i = (mi_f h 13964).toNat then p else mi_a h 127 i) : RQ (rf_beg g p) h' := by
  obtain ⟨⟨q0, q1, q2, q3, q4, q5⟩, qa, ql⟩ := id hq
  obtain ⟨t3, t4, t5, t6, t7, t8, t9, t10, t11⟩ := hp
  have e := fun r (hr : r ∈ rk_L) => qa r hr
  refine ⟨⟨?_, ?_, ?_, ?_, ?_, ?_⟩, fun r hr i => ?_, fun i => ?_⟩
  · exact q0.trans (me_f (c := 13963) hF hS rfl rfl).symm
  · show g 0 1 + 1 = _
    rw [t3, q1]
  · exact q2.trans (me_f (c := 13965) hF hS rfl rfl).symm
  · exact q3.trans (me_f (c := 13961) hF hS rfl rfl).symm
  · exact q4.trans (me_f (c := 13962) hF hS rfl rfl).symm
  · exact q5.trans (me_f (c := 14003) hF hS rfl rfl).symm
  · have k := hr
    simp only [rk_L, List.mem_cons, List.not_mem_nil, or_false] at k
    rcases k with rfl | rfl | rfl | rfl | rfl | rfl | rfl | rfl | rfl | rfl | rfl | rfl | rfl | rfl | rfl | rfl | rfl | rfl | rfl | rfl | rfl
    all_goals
      first
        | exact RQ_st hq hS hF hr rfl rfl i
        | (show (if i = (g 0 1).toNat then -1 else g 126 i) = mi_a h' 126 i
           rw [t4, q1, e 126 (by decide)])
        | (show (if i = (g 0 1).toNat then p else g 127 i) = mi_a h' 127 i
           rw [h127, q1, e 127 (by decide)])
        | (show (if g 130 (g 146 (g 0 5).toNat).toNat ≠ 0 ∧ i = (g 147 (g 0 5).toNat).toNat then g 0 1 else if i = (g 0 1).toNat then -1 else g 128 i) = mi_a h' 128 i
           rw [t5, q5, q1, e 146 (by decide), e 130 (by decide), e 147 (by decide), e 128 (by decide)])
        | (show (if g 130 (g 146 (g 0 5).toNat).toNat = 0 ∧ i = (g 146 (g 0 5).toNat).toNat then g 0 1 else g 129 i) = mi_a h' 129 i
           rw [t6, q5, q1, e 146 (by decide), e 130 (by decide), e 129 (by decide)])
        | (show (if i = (g 146 (g 0 5).toNat).toNat then g 130 i + 1 else g 130 i) = mi_a h' 130 i
           rw [t7, q5, e 146 (by decide), e 130 (by decide)])
        | (show (if i = (g 0 5).toNat then g 0 1 else g 147 i) = mi_a h' 147 i
           rw [t8, q5, q1, e 147 (by decide)])
        | (show (if i = (g 0 5).toNat then -1 else g 149 i) = mi_a h' 149 i
           rw [t9, q5, e 149 (by decide)])
        | (show (if i = (g 0 5).toNat then -1 else g 150 i) = mi_a h' 150 i
           rw [t10, q5, e 150 (by decide)])
        | (show (if i = (g 0 5).toNat then 0 else g 151 i) = mi_a h' 151 i
           rw [t11, q5, e 151 (by decide)])
  · show g 117 i = _
    rw [ql, lc_fr hS hF rfl rfl]
theorem RQ_new (hq : RQ g h) (hS : ab_Sh sx_sk h) (hF : ab_Fr [(13965, 13966), (16512, 16513), (16640, 16641)] h h') (p1 : mi_f h' 13965 = mi_f h 13965 + 1) (p2 : ∀ i, mi_a h' 129 i = if i = (mi_f h 13965).toNat then -1 else mi_a h 129 i) (p3 : ∀ i, mi_a h' 130 i = if i = (mi_f h 13965).toNat then 0 else mi_a h 130 i) : RQ (rf_new g) h' := by
  obtain ⟨⟨q0, q1, q2, q3, q4, q5⟩, qa, ql⟩ := id hq
  have e := fun r (hr : r ∈ rk_L) => qa r hr
  refine ⟨⟨?_, ?_, ?_, ?_, ?_, ?_⟩, fun r hr i => ?_, fun i => ?_⟩
  · exact q0.trans (me_f (c := 13963) hF hS rfl rfl).symm
  · exact q1.trans (me_f (c := 13964) hF hS rfl rfl).symm
  · show g 0 2 + 1 = _
    rw [p1, q2]
  · exact q3.trans (me_f (c := 13961) hF hS rfl rfl).symm
  · exact q4.trans (me_f (c := 13962) hF hS rfl rfl).symm
  · exact q5.trans (me_f (c := 14003) hF hS rfl rfl).symm
  · have k := hr
    simp only [rk_L, List.mem_cons, List.not_mem_nil, or_false] at k
    rcases k with rfl | rfl | rfl | rfl | rfl | rfl | rfl | rfl | rfl | rfl | rfl | rfl | rfl | rfl | rfl | rfl | rfl | rfl | rfl | rfl | rfl
    all_goals
      first
        | exact RQ_st hq hS hF hr rfl rfl i
        | (show (if i = (g 0 2).toNat then -1 else g 129 i) = mi_a h' 129 i
           rw [p2, q2, e 129 (by decide)])
        | (show (if i = (g 0 2).toNat then 0 else g 130 i) = mi_a h' 130 i
           rw [p3, q2, e 130 (by decide)])
  · show g 117 i = _
    rw [ql, lc_fr hS hF rfl rfl]
theorem RQ_unit {s w p : Int} (hq : RQ g h) (hS : ab_Sh sx_sk h) (hF : ab_Fr [(13963, 13964), (15232, 15233), (15360, 15361), (15488, 15489), (15616, 15617), (15872, 15873), (16000, 16001)] h h') (f0 : mi_f h' 13963 = mi_f h 13963 + 1) (h119 : ∀ i, mi_a h' 119 i = if i = (mi_f h 13963).toNat then s else mi_a h 119 i) (h120 : ∀ i, mi_a h' 120 i = if i = (mi_f h 13963).toNat then w else mi_a h 120 i) (h121 : ∀ i, mi_a h' 121 i = if i = (mi_f h 13963).toNat then p else mi_a h 121 i) (h122 : ∀ i, mi_a h' 122 i = if i = (mi_f h 13963).toNat then 0 else mi_a h 122 i) (h124 : ∀ i, mi_a h' 124 i = if i = (mi_f h 13963).toNat then -1 else mi_a h 124 i) (h125 : ∀ i, mi_a h' 125 i = if i = (mi_f h 13963).toNat then -1 else mi_a h 125 i) : RQ (rf_unit g s w p) h' := by
  obtain ⟨⟨q0, q1, q2, q3, q4, q5⟩, qa, ql⟩ := id hq
  have e := fun r (hr : r ∈ rk_L) => qa r hr
  refine ⟨⟨?_, ?_, ?_, ?_, ?_, ?_⟩, fun r hr i => ?_, fun i => ?_⟩
  · show g 0 0 + 1 = _
    rw [f0, q0]
  · exact q1.trans (me_f (c := 13964) hF hS rfl rfl).symm
  · exact q2.trans (me_f (c := 13965) hF hS rfl rfl).symm
  · exact q3.trans (me_f (c := 13961) hF hS rfl rfl).symm
  · exact q4.trans (me_f (c := 13962) hF hS rfl rfl).symm
  · exact q5.trans (me_f (c := 14003) hF hS rfl rfl).symm
  · have k := hr
    simp only [rk_L, List.mem_cons, List.not_mem_nil, or_false] at k
    rcases k with rfl | rfl | rfl | rfl | rfl | rfl | rfl | rfl | rfl | rfl | rfl | rfl | rfl | rfl | rfl | rfl | rfl | rfl | rfl | rfl | rfl
    all_goals
      first
        | exact RQ_st hq hS hF hr rfl rfl i
        | (show (if i = (g 0 0).toNat then s else g 119 i) = mi_a h' 119 i
           rw [h119, q0, e 119 (by decide)])
        | (show (if i = (g 0 0).toNat then w else g 120 i) = mi_a h' 120 i
           rw [h120, q0, e 120 (by decide)])
        | (show (if i = (g 0 0).toNat then p else g 121 i) = mi_a h' 121 i
           rw [h121, q0, e 121 (by decide)])
        | (show (if i = (g 0 0).toNat then 0 else g 122 i) = mi_a h' 122 i
           rw [h122, q0, e 122 (by decide)])
        | (show (if i = (g 0 0).toNat then -1 else g 124 i) = mi_a h' 124 i
           rw [h124, q0, e 124 (by decide)])
        | (show (if i = (g 0 0).toNat then -1 else g 125 i) = mi_a h' 125 i
           rw [h125, q0, e 125 (by decide)])
  · show g 117 i = _
    rw [ql, lc_fr hS hF rfl rfl]
theorem RQ_o1 {u : Int} (hq : RQ g h) (hS : ab_Sh sx_sk h) (hF : ab_Fr [(14003, 14004), (18944, 18945)] h h') (f5 : mi_f h' 14003 = mi_f h 14003 + 1) (h148 : ∀ i, mi_a h' 148 i = if i = (mi_f h 14003 + 1).toNat then u else mi_a h 148 i) : RQ (rf_o1 g u) h' := by
  obtain ⟨⟨q0, q1, q2, q3, q4, q5⟩, qa, ql⟩ := id hq
  have e := fun r (hr : r ∈ rk_L) => qa r hr
  refine ⟨⟨?_, ?_, ?_, ?_, ?_, ?_⟩, fun r hr i => ?_, fun i => ?_⟩
  · exact q0.trans (me_f (c := 13963) hF hS rfl rfl).symm
  · exact q1.trans (me_f (c := 13964) hF hS rfl rfl).symm
  · exact q2.trans (me_f (c := 13965) hF hS rfl rfl).symm
  · exact q3.trans (me_f (c := 13961) hF hS rfl rfl).symm
  · exact q4.trans (me_f (c := 13962) hF hS rfl rfl).symm
  · show g 0 5 + 1 = _
    rw [f5, q5]
  · have k := hr
    simp only [rk_L, List.mem_cons, List.not_mem_nil, or_false] at k
    rcases k with rfl | rfl | rfl | rfl | rfl | rfl | rfl | rfl | rfl | rfl | rfl | rfl | rfl | rfl | rfl | rfl | rfl | rfl | rfl | rfl | rfl
    all_goals
      first
        | exact RQ_st hq hS hF hr rfl rfl i
        | (show (if i = (g 0 5 + 1).toNat then u else g 148 i) = mi_a h' 148 i
           rw [h148, q5, e 148 (by decide)])
  · show g 117 i = _
    rw [ql, lc_fr hS hF rfl rfl]
theorem RQ_o2 {u f : Int} (hq : RQ g h) (hS : ab_Sh sx_sk h) (hF : ab_Fr [(15360, 15361), (18688, 18689)] h h') (h120 : ∀ i, mi_a h' 120 i = if i = u.toNat then f else mi_a h 120 i) (h146 : ∀ i, mi_a h' 146 i = if i = (mi_f h 14003).toNat then f else mi_a h 146 i) : RQ (rf_o2 g u f) h' := by
  obtain ⟨⟨q0, q1, q2, q3, q4, q5⟩, qa, ql⟩ := id hq
  have e := fun r (hr : r ∈ rk_L) => qa r hr
  refine ⟨⟨?_, ?_, ?_, ?_, ?_, ?_⟩, fun r hr i => ?_, fun i => ?_⟩
  · exact q0.trans (me_f (c := 13963) hF hS rfl rfl).symm
  · exact q1.trans (me_f (c := 13964) hF hS rfl rfl).symm
  · exact q2.trans (me_f (c := 13965) hF hS rfl rfl).symm
  · exact q3.trans (me_f (c := 13961) hF hS rfl rfl).symm
  · exact q4.trans (me_f (c := 13962) hF hS rfl rfl).symm
  · exact q5.trans (me_f (c := 14003) hF hS rfl rfl).symm
  · have k := hr
    simp only [rk_L, List.mem_cons, List.not_mem_nil, or_false] at k
    rcases k with rfl | rfl | rfl | rfl | rfl | rfl | rfl | rfl | rfl | rfl | rfl | rfl | rfl | rfl | rfl | rfl | rfl | rfl | rfl | rfl | rfl
    all_goals
      first
        | exact RQ_st hq hS hF hr rfl rfl i
        | (show (if i = u.toNat then f else g 120 i) = mi_a h' 120 i
           rw [h120, e 120 (by decide)])
        | (show (if i = (g 0 5).toNat then f else g 146 i) = mi_a h' 146 i
           rw [h146, q5, e 146 (by decide)])
  · show g 117 i = _
    rw [ql, lc_fr hS hF rfl rfl]
theorem RQ_word {u w : Int} (hq : RQ g h) (hS : ab_Sh sx_sk h) (hF : ab_Fr [(15360, 15361)] h h') (h120 : ∀ i, mi_a h' 120 i = if i = u.toNat then w else mi_a h 120 i) : RQ (rf_word g u w) h' := by
  obtain ⟨⟨q0, q1, q2, q3, q4, q5⟩, qa, ql⟩ := id hq
  have e := fun r (hr : r ∈ rk_L) => qa r hr
  refine ⟨⟨?_, ?_, ?_, ?_, ?_, ?_⟩, fun r hr i => ?_, fun i => ?_⟩
  · exact q0.trans (me_f (c := 13963) hF hS rfl rfl).symm
  · exact q1.trans (me_f (c := 13964) hF hS rfl rfl).symm
  · exact q2.trans (me_f (c := 13965) hF hS rfl rfl).symm
  · exact q3.trans (me_f (c := 13961) hF hS rfl rfl).symm
  · exact q4.trans (me_f (c := 13962) hF hS rfl rfl).symm
  · exact q5.trans (me_f (c := 14003) hF hS rfl rfl).symm
  · have k := hr
    simp only [rk_L, List.mem_cons, List.not_mem_nil, or_false] at k
    rcases k with rfl | rfl | rfl | rfl | rfl | rfl | rfl | rfl | rfl | rfl | rfl | rfl | rfl | rfl | rfl | rfl | rfl | rfl | rfl | rfl | rfl
    all_goals
      first
        | exact RQ_st hq hS hF hr rfl rfl i
        | (show (if i = u.toNat then w else g 120 i) = mi_a h' 120 i
           rw [h120, e 120 (by decide)])
  · show g 117 i = _
    rw [ql, lc_fr hS hF rfl rfl]
theorem RQ_wrap {u w p : Int} (hq : RQ g h) (hS : ab_Sh sx_sk h) (hF : ab_Fr [(15616, 15617), (15744, 15745)] h h') (h122 : ∀ i, mi_a h' 122 i = if i = u.toNat then w else mi_a h 122 i) (h123 : ∀ i, mi_a h' 123 i = if i = u.toNat then p else mi_a h 123 i) : RQ (rf_wrap g u w p) h' := by
  obtain ⟨⟨q0, q1, q2, q3, q4, q5⟩, qa, ql⟩ := id hq
  have e := fun r (hr : r ∈ rk_L) => qa r hr
  refine ⟨⟨?_, ?_, ?_, ?_, ?_, ?_⟩, fun r hr i => ?_, fun i => ?_⟩
  · exact q0.trans (me_f (c := 13963) hF hS rfl rfl).symm
  · exact q1.trans (me_f (c := 13964) hF hS rfl rfl).symm
  · exact q2.trans (me_f (c := 13965) hF hS rfl rfl).symm
  · exact q3.trans (me_f (c := 13961) hF hS rfl rfl).symm
  · exact q4.trans (me_f (c := 13962) hF hS rfl rfl).symm
  · exact q5.trans (me_f (c := 14003) hF hS rfl rfl).symm
  · have k := hr
    simp only [rk_L, List.mem_cons, List.not_mem_nil, or_false] at k
    rcases k with rfl | rfl | rfl | rfl | rfl | rfl | rfl | rfl | rfl | rfl | rfl | rfl | rfl | rfl | rfl | rfl | rfl | rfl | rfl | rfl | rfl
    all_goals
      first
        | exact RQ_st hq hS hF hr rfl rfl i
        | (show (if i = u.toNat then w else g 122 i) = mi_a h' 122 i
           rw [h122, e 122 (by decide)])
        | (show (if i = u.toNat then p else g 123 i) = mi_a h' 123 i
           rw [h123, e 123 (by decide)])
  · show g 117 i = _
    rw [ql, lc_fr hS hF rfl rfl]
theorem RQ_swap (hq : RQ g h) (hS : ab_Sh sx_sk h) (hF : ab_Fr [(19328, 19329)] h h') (h151 : ∀ i, mi_a h' 151 i = if i = (mi_f h 14003).toNat then 1 else mi_a h 151 i) : RQ (rf_swap g) h' := by
  obtain ⟨⟨q0, q1, q2, q3, q4, q5⟩, qa, ql⟩ := id hq
  have e := fun r (hr : r ∈ rk_L) => qa r hr
  refine ⟨⟨?_, ?_, ?_, ?_, ?_, ?_⟩, fun r hr i => ?_, fun i => ?_⟩
  · exact q0.trans (me_f (c := 13963) hF hS rfl rfl).symm
  · exact q1.trans (me_f (c := 13964) hF hS rfl rfl).symm
  · exact q2.trans (me_f (c := 13965) hF hS rfl rfl).symm
  · exact q3.trans (me_f (c := 13961) hF hS rfl rfl).symm
  · exact q4.trans (me_f (c := 13962) hF hS rfl rfl).symm
  · exact q5.trans (me_f (c := 14003) hF hS rfl rfl).symm
  · have k := hr
    simp only [rk_L, List.mem_cons, List.not_mem_nil, or_false] at k
    rcases k with rfl | rfl | rfl | rfl | rfl | rfl | rfl | rfl | rfl | rfl | rfl | rfl | rfl | rfl | rfl | rfl | rfl | rfl | rfl | rfl | rfl
    all_goals
      first
        | exact RQ_st hq hS hF hr rfl rfl i
        | (show (if i = (g 0 5).toNat then 1 else g 151 i) = mi_a h' 151 i
           rw [h151, q5, e 151 (by decide)])
  · show g 117 i = _
    rw [ql, lc_fr hS hF rfl rfl]
theorem RQ_lvl {k : Int} (hq : RQ g h) (hS : ab_Sh sx_sk h) (hF : ab_Fr [(14003, 14004)] h h') (f5 : mi_f h' 14003 = k) : RQ (rf_lvl g k) h' := by
  obtain ⟨⟨q0, q1, q2, q3, q4, q5⟩, qa, ql⟩ := id hq
  have e := fun r (hr : r ∈ rk_L) => qa r hr
  refine ⟨⟨?_, ?_, ?_, ?_, ?_, ?_⟩, fun r hr i => ?_, fun i => ?_⟩
  · exact q0.trans (me_f (c := 13963) hF hS rfl rfl).symm
  · exact q1.trans (me_f (c := 13964) hF hS rfl rfl).symm
  · exact q2.trans (me_f (c := 13965) hF hS rfl rfl).symm
  · exact q3.trans (me_f (c := 13961) hF hS rfl rfl).symm
  · exact q4.trans (me_f (c := 13962) hF hS rfl rfl).symm
  · show k = _
    rw [f5]
  · have k := hr
    simp only [rk_L, List.mem_cons, List.not_mem_nil, or_false] at k
    rcases k with rfl | rfl | rfl | rfl | rfl | rfl | rfl | rfl | rfl | rfl | rfl | rfl | rfl | rfl | rfl | rfl | rfl | rfl | rfl | rfl | rfl
    all_goals
      first
        | exact RQ_st hq hS hF hr rfl rfl i
  · show g 117 i = _
    rw [ql, lc_fr hS hF rfl rfl]
theorem RQ_lit {c : Int} (hq : RQ g h) (hS : ab_Sh sx_sk h) (hF : ab_Fr lt_W h h') (f4 : mi_f h' 13962 = mi_f h 13962 + 1) (hl : ∀ i, lc_r h' i = if i = (mi_f h 13962).toNat then c else lc_r h i) : RQ (rf_lit g c) h' := by
  obtain ⟨⟨q0, q1, q2, q3, q4, q5⟩, qa, ql⟩ := id hq
  have e := fun r (hr : r ∈ rk_L) => qa r hr
  refine ⟨⟨?_, ?_, ?_, ?_, ?_, ?_⟩, fun r hr i => ?_, fun i => ?_⟩
  · exact q0.trans (me_f (c := 13963) hF hS rfl rfl).symm
  · exact q1.trans (me_f (c := 13964) hF hS rfl rfl).symm
  · exact q2.trans (me_f (c := 13965) hF hS rfl rfl).symm
  · exact q3.trans (me_f (c := 13961) hF hS rfl rfl).symm
  · show g 0 4 + 1 = _
    rw [f4, q4]
  · exact q5.trans (me_f (c := 14003) hF hS rfl rfl).symm
  · have k := hr
    simp only [rk_L, List.mem_cons, List.not_mem_nil, or_false] at k
    rcases k with rfl | rfl | rfl | rfl | rfl | rfl | rfl | rfl | rfl | rfl | rfl | rfl | rfl | rfl | rfl | rfl | rfl | rfl | rfl | rfl | rfl
    all_goals
      first
        | exact RQ_st hq hS hF hr rfl rfl i
  · show (if i = (g 0 4).toNat then c else g 117 i) = _
    rw [hl, q4, ql]
/-- nothing that is looked at was written -/
theorem RQ_same (hq : RQ g h) (hS : ab_Sh sx_sk h) {wr : List (Nat × Nat)} (hF : ab_Fr wr h h') (hw : (ab_in wr 13963 || ab_in wr 13964 || ab_in wr 13965 || ab_in wr 13961 || ab_in wr 13962 || ab_in wr 14003 || ab_in wr 14976 || ab_in wr 15104 || rk_L.any (fun r => ab_in wr (r * 128))) = false) : RQ g h' := by
  simp only [Bool.or_eq_false_iff] at hw
  obtain ⟨⟨⟨⟨⟨⟨⟨⟨w0, w1⟩, w2⟩, w3⟩, w4⟩, w5⟩, w6⟩, w7⟩, w8⟩ := hw
  obtain ⟨⟨q0, q1, q2, q3, q4, q5⟩, qa, ql⟩ := id hq
  refine ⟨⟨?_, ?_, ?_, ?_, ?_, ?_⟩, fun r hr i => ?_, fun i => ?_⟩
  · exact q0.trans (me_f (c := 13963) hF hS rfl w0).symm
  · exact q1.trans (me_f (c := 13964) hF hS rfl w1).symm
  · exact q2.trans (me_f (c := 13965) hF hS rfl w2).symm
  · exact q3.trans (me_f (c := 13961) hF hS rfl w3).symm
  · exact q4.trans (me_f (c := 13962) hF hS rfl w4).symm
  · exact q5.trans (me_f (c := 14003) hF hS rfl w5).symm
  · have nr : ab_in wr (r * 128) = false := by
      have := List.any_eq_false.mp w8 r hr
      simpa using this
    have hA : (mx_isA sx_sk r || mx_isB sx_sk r) = true := by
      have all : rk_L.all (fun r => mx_isA sx_sk r || mx_isB sx_sk r) = true := by decide
      exact List.all_eq_true.mp all r hr
    exact RQ_st hq hS hF hr hA nr i
  · rw [ql, lc_fr hS hF w6 w7]
end RQL
