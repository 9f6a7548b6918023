/-! the reference: sortOf, isPart, literal, exactly -/
theorem lg_cmpn {x y : Int64} (h : (lg_cmp x y).toInt ≠ 0) : x.toInt ≠ y.toInt := fun e => by
  have : x = y := Int64.toInt_inj.mp e
  subst this
  apply h
  unfold lg_cmp
  simp
/-- the sort of a word; none is -1 -/
def so_r (v : Int) : Int := if v = 609302190 then 1 else if v = 177198 then 2 else if v = 26886565 then 3 else if v = 11994498 then 4 else if v = 178476 then 5 else if v = 609752228 then 6 else if v = 363554 then 7 else -1
theorem so_rc (v : Int) : so_c v = if so_r v = -1 then 12 else so_r v := by
  unfold so_c so_r
  split
  · rfl
  split
  · rfl
  split
  · rfl
  split
  · rfl
  split
  · rfl
  split
  · rfl
  split
  · rfl
  · rfl
section RSX
variable {d : Nat} {h : sm_H}
theorem me_sortx {x : Int64} (hS : ab_Sh sx_sk h) : me_E d 189 0 [some (.inr (.inl x)), none] [] h (fun w h' => h' = h ∧ w = some (.inl (so_r x.toInt))) := by
  have n1 : (Int64.ofNat 609302190).toInt = 609302190 := rfl
  have n2 : (Int64.ofNat 177198).toInt = 177198 := rfl
  have n3 : (Int64.ofNat 26886565).toInt = 26886565 := rfl
  have n4 : (Int64.ofNat 11994498).toInt = 11994498 := rfl
  have n5 : (Int64.ofNat 178476).toInt = 178476 := rfl
  have n6 : (Int64.ofNat 609752228).toInt = 609752228 := rfl
  have n7 : (Int64.ofNat 363554).toInt = 363554 := rfl
  have N : ∀ {c : Int64} {z : Int}, c.toInt = z → (lg_cmp x c).toInt ≠ 0 → ¬ x.toInt = z := fun {c z} e hc => by rw [← e]; exact lg_cmpn hc
  have E : ∀ {c : Int64} {z : Int}, c.toInt = z → (lg_cmp x c).toInt = 0 → x.toInt = z := fun {c z} e hc => by rw [lg_cmp0 hc, e]
  refine mt_soA hS ?_ ?_ ?_ ?_ ?_ ?_ ?_ ?_
  · intro c1 c2 c3 c4 c5 c6 c7 h1 g1 g2
    exact ⟨me_nil g2, by unfold so_r; rw [if_neg (N n1 c1), if_neg (N n2 c2), if_neg (N n3 c3), if_neg (N n4 c4), if_neg (N n5 c5), if_neg (N n6 c6), if_neg (N n7 c7)]⟩
  · intro c1 c2 c3 c4 c5 c6 c7 h1 g1 g2
    exact ⟨me_nil g2, by unfold so_r; rw [if_neg (N n1 c1), if_neg (N n2 c2), if_neg (N n3 c3), if_neg (N n4 c4), if_neg (N n5 c5), if_neg (N n6 c6), if_pos (E n7 c7)]⟩
  · intro c1 c2 c3 c4 c5 c6 h1 g1 g2
    exact ⟨me_nil g2, by unfold so_r; rw [if_neg (N n1 c1), if_neg (N n2 c2), if_neg (N n3 c3), if_neg (N n4 c4), if_neg (N n5 c5), if_pos (E n6 c6)]⟩
  · intro c1 c2 c3 c4 c5 h1 g1 g2
    exact ⟨me_nil g2, by unfold so_r; rw [if_neg (N n1 c1), if_neg (N n2 c2), if_neg (N n3 c3), if_neg (N n4 c4), if_pos (E n5 c5)]⟩
  · intro c1 c2 c3 c4 h1 g1 g2
    exact ⟨me_nil g2, by unfold so_r; rw [if_neg (N n1 c1), if_neg (N n2 c2), if_neg (N n3 c3), if_pos (E n4 c4)]⟩
  · intro c1 c2 c3 h1 g1 g2
    exact ⟨me_nil g2, by unfold so_r; rw [if_neg (N n1 c1), if_neg (N n2 c2), if_pos (E n3 c3)]⟩
  · intro c1 c2 h1 g1 g2
    exact ⟨me_nil g2, by unfold so_r; rw [if_neg (N n1 c1), if_pos (E n2 c2)]⟩
  · intro c1 h1 g1 g2
    exact ⟨me_nil g2, by unfold so_r; rw [if_pos (E n1 c1)]⟩
/-- a part begins with this token -/
def ip_t (t v : Int) : Prop := (t = 1 ∧ 0 < so_r v) ∨ t = 2 ∨ t = 3 ∨ t = 4 ∨ t = 40
theorem me_isPartx (hS : ab_Sh sx_sk h) : me_E (d + 1) 188 0 [some (.inr (.inr 109))] [] h (fun w h' => h' = h ∧ ∃ z, w = some (.inl z) ∧ (z = 0 ∨ z = 1) ∧ (z = 1 ↔ ip_t (mi_f h 14001) (mx_l h 14004).toInt)) := by
  unfold ip_t
  refine mt_ipA hS ?_ ?_ ?_ ?_ ?_ ?_
  · intro b c1 c2 h1 g1 g2
    exact ⟨me_nil g2, 1, rfl, Or.inr rfl, by omega⟩
  · intro b c1 c2 c3 h1 g1 g2
    exact ⟨me_nil g2, 1, rfl, Or.inr rfl, by omega⟩
  · intro b c1 c2 c3 c4 h1 g1 g2
    exact ⟨me_nil g2, 1, rfl, Or.inr rfl, by omega⟩
  · intro b c1 c2 c3 c4 c5 h1 g1 g2
    exact ⟨me_nil g2, 0, rfl, Or.inl rfl, by omega⟩
  · intro b c1 c2 c3 c4 c5 h1 g1 g2
    exact ⟨me_nil g2, 1, rfl, Or.inr rfl, by omega⟩
  · intro b c1 h1 g1 g2
    have e := me_nil g2
    subst e
    refine ⟨_, me_sortx (d := d) hS, fun w h2 ow hq => ?_⟩
    obtain ⟨rfl, rfl⟩ := hq
    have os : mi_in (so_r (mx_l h2 14004).toInt) := ow _ rfl
    refine mt_ipB hS os ?_ ?_ ?_ ?_ ?_ ?_
    · intro c h3 g1 g2
      exact ⟨me_nil g2, 1, rfl, Or.inr rfl, by omega⟩
    · intro b2 c c2; exfalso; omega
    · intro b2 c c2 c3; exfalso; omega
    · intro b2 c c2 c3 c4; exfalso; omega
    · intro b2 c c2 c3 c4 c5 h3 g1 g2
      exact ⟨me_nil g2, 0, rfl, Or.inl rfl, by omega⟩
    · intro b2 c c2 c3 c4 c5; exfalso; omega
/-- the code of a literal, as the class has it -/
def lc_r (h : sm_H) (k : Nat) : Int := if (mx_b h 118 k).toInt = 0 then -(mi_a h 117 k) else (mx_b h 118 k).toInt
/-- the literals that are there -/
def lc_ok (h : sm_H) : Prop := ∀ k : Nat, (k : Int) < mi_f h 13962 → 0 ≤ (mx_b h 118 k).toInt ∧ 1 ≤ mi_a h 117 k + (mx_b h 118 k).toInt ∧ 0 ≤ mi_a h 117 k
def lc_t (t v : Int) : Int := if t = 3 then v else -v
def lt_Q (h : sm_H) (w : Option mi_V) (h' : sm_H) : Prop := ab_Sh sx_sk h' ∧ ab_Fr lt_W h h' ∧ ∃ z, w = some (.inl z) ∧
  ((0 ≤ z ∧ z < mi_f h 13962 ∧ lc_r h z.toNat = lc_t (mi_f h 14001) (mx_l h 14004).toInt ∧ (∀ j : Nat, (j : Int) < z → lc_r h j ≠ lc_t (mi_f h 14001) (mx_l h 14004).toInt) ∧ h' = h) ∨
   ((∀ j : Nat, (j : Int) < mi_f h 13962 → lc_r h j ≠ lc_t (mi_f h 14001) (mx_l h 14004).toInt) ∧ ((mi_f h 13962 = 20 ∧ z = 20 ∧ h' = h) ∨ (mi_f h 13962 < 20 ∧ z = mi_f h 13962 ∧ mi_f h' 13962 = mi_f h 13962 + 1 ∧ lc_ok h' ∧ ∀ i, lc_r h' i = if i = (mi_f h 13962).toNat then lc_t (mi_f h 14001) (mx_l h 14004).toInt else lc_r h i))))
theorem lite2 (hS : ab_Sh sx_sk h) (hl : lc_ok h) (ht : (mi_f h 14001 = 3 ∧ 1 ≤ (mx_l h 14004).toInt ∧ (mx_l h 14004).toInt ≤ 1073741823) ∨ (mi_f h 14001 = 4 ∧ 1 ≤ (mx_l h 14004).toInt ∧ (mx_l h 14004).toInt ≤ 255)) : ∀ (N : Nat) (zk : Int), 20 - zk < N → 0 ≤ zk → zk ≤ 20 → (∀ j : Nat, (j : Int) < zk → lc_r h j ≠ lc_t (mi_f h 14001) (mx_l h 14004).toInt) → me_E d 191 2 [some (.inr (.inr 109)), some (.inl zk)] [] h (lt_Q h) := by
  have bl := me_fb (c := 13962) hS rfl
  have z0 : (Int64.ofNat 0).toInt = 0 := rfl
  have sg : ∀ k : Nat, mi_in (mi_a h 117 k) := fun k => mi_inT _
  have es : ∀ k : Nat, ((Int32.ofInt (mi_a h 117 k)).toInt64).toInt = mi_a h 117 k := fun k => by rw [Int32.toInt_toInt64, mi_ti (sg k)]
  have e32 : mi_f h 14001 = 4 → (mx_l h 14004).toInt32.toInt = (mx_l h 14004).toInt := fun c => by
    rw [Int64.toInt_toInt32]
    exact Int.bmod_eq_of_le (by omega) (by omega)
  intro N
  induction N with
  | zero => intro zk hN k0 k1; exfalso; omega
  | succ N ih =>
    intro zk hN k0 k1 hn
    have ok : mi_in zk := ⟨by omega, by omega⟩
    have new : ∀ {h1 : sm_H} {s : Int} {k : Int64}, mi_f h 13962 ≤ zk → mi_f h 13962 ≠ 20 → ab_Sh sx_sk h1 → mi_f h1 13962 = mi_f h 13962 + 1 → (∀ i, mi_a h1 117 i = if i = (mi_f h 13962).toNat then s else mi_a h 117 i) → (∀ i, mx_b h1 118 i = if i = (mi_f h 13962).toNat then k else mx_b h 118 i) → (0 ≤ k.toInt ∧ 1 ≤ s + k.toInt ∧ 0 ≤ s) → (if k.toInt = 0 then -s else k.toInt) = lc_t (mi_f h 14001) (mx_l h 14004).toInt → ab_Fr lt_W h h1 → lt_Q h (some (.inl (mi_f h 13962))) h1 := fun {h1 s k} c c2 g1 g2 g3 g4 g5 g6 g7 => by
      refine ⟨g1, g7, mi_f h 13962, rfl, Or.inr ⟨fun j hj => hn j (by omega), Or.inr ⟨by omega, rfl, g2, fun i hi => ?_, fun i => ?_⟩⟩⟩
      · rw [g3, g4]
        by_cases e : i = (mi_f h 13962).toNat
        · rw [if_pos e, if_pos e]
          exact g5
        · rw [if_neg e, if_neg e]
          exact hl i (by omega)
      · unfold lc_r
        rw [g3, g4]
        by_cases e : i = (mi_f h 13962).toNat
        · rw [if_pos e, if_pos e, if_pos e]
          exact g6
        · rw [if_neg e, if_neg e, if_neg e]
    have nx : zk < mi_f h 13962 → ¬ (lc_r h zk.toNat = lc_t (mi_f h 14001) (mx_l h 14004).toInt) → ∀ h1, ab_Sh sx_sk h1 → ab_Fr [] h h1 → me_E d 191 2 [some (.inr (.inr 109)), some (.inl (zk + 1))] [] h1 (lt_Q h) := fun cl hc h1 g1 g2 => by
      have e := me_nil g2
      subst e
      refine ih (zk + 1) (by omega) (by omega) (by omega) (fun j hj => ?_)
      by_cases e : (j : Int) = zk
      · rw [show j = zk.toNat by omega]
        exact hc
      · exact hn j (by omega)
    have fd : zk < mi_f h 13962 → lc_r h zk.toNat = lc_t (mi_f h 14001) (mx_l h 14004).toInt → ∀ h1, ab_Sh sx_sk h1 → ab_Fr [] h h1 → lt_Q h (some (.inl zk)) h1 := fun c hc h1 g1 g2 => by
      have e := me_nil g2
      subst e
      exact ⟨hS, ab_Fr.refl, zk, rfl, Or.inl ⟨k0, c, hc, hn, rfl⟩⟩
    refine mt_liteB hS ok ?_ ?_ ?_ ?_ ?_ ?_ ?_ ?_ ?_ ?_
    · intro b b2 c c2 c3 c4; exfalso; omega
    · intro b b2 c c2 c3 c4
      refine ⟨⟨⟨by omega, by omega⟩, ⟨by omega, by omega⟩, ⟨by omega, by omega⟩⟩, fun h1 g1 g2 g3 g4 g5 => new c c2 g1 g2 g3 g4 ⟨by rw [z0]; decide, by rw [z0, e32 c4]; omega, by rw [e32 c4]; omega⟩ ?_ (g5.wide (fun c hc => ab_swr_ok (by decide) hc))⟩
      rw [z0, if_pos rfl, e32 c4]
      unfold lc_t
      rw [if_neg c3]
    · intro b b2 c c2 c3 c4
      refine ⟨⟨⟨by omega, by omega⟩, by omega, ⟨by omega, by omega⟩, ⟨by omega, by omega⟩⟩, fun h1 g1 g2 g3 g4 g5 => new c c2 g1 g2 g3 g4 ⟨by omega, by omega, by decide⟩ ?_ (g5.wide (fun c hc => ab_swr_ok (by decide) hc))⟩
      unfold lc_t
      rw [if_neg (by omega), if_pos c3]
    · intro b b2 c c2 c3 c4; exfalso; omega
    · intro b c c2 h1 g1 g2
      have e := me_nil g2
      subst e
      exact ⟨hS, ab_Fr.refl, 20, rfl, Or.inr ⟨fun j hj => hn j (by omega), Or.inl ⟨c2, rfl, rfl⟩⟩⟩
    · intro b b2 c c2 c3
      refine ⟨⟨⟨by omega, by omega⟩, ⟨by omega, by omega⟩⟩, nx c (fun x => ?_)⟩
      have y := lg_cmpn c3
      rw [z0] at y
      have := hl zk.toNat (by omega)
      unfold lc_r lc_t at x
      rw [if_neg y, if_neg c2] at x
      omega
    · intro b b2 c c2 c3 c4
      refine ⟨⟨⟨by omega, by omega⟩, ⟨by omega, by omega⟩⟩, nx c (fun x => ?_)⟩
      have y : (mx_b h 118 zk.toNat).toInt = 0 := by rw [lg_cmp0 c3]; rfl
      have y2 := lg_cmpn c4
      rw [es] at y2
      unfold lc_r lc_t at x
      rw [if_pos y, if_neg c2] at x
      omega
    · intro b b2 c c2 c3 c4
      refine ⟨⟨by omega, by omega⟩, fd c ?_⟩
      have y : (mx_b h 118 zk.toNat).toInt = 0 := by rw [lg_cmp0 c3]; rfl
      have y2 : mi_a h 117 zk.toNat = (mx_l h 14004).toInt := by
        rw [← es, lg_cmp0 c4]
      unfold lc_r lc_t
      rw [if_pos y, if_neg c2, y2]
    · intro b b2 c c2 c3
      refine ⟨⟨⟨by omega, by omega⟩, ⟨by omega, by omega⟩⟩, nx c (fun x => ?_)⟩
      have y := lg_cmpn c3
      have := hl zk.toNat (by omega)
      unfold lc_r lc_t at x
      rw [if_pos c2] at x
      split at x <;> omega
    · intro b b2 c c2 c3
      refine ⟨⟨by omega, by omega⟩, fd c ?_⟩
      have y : (mx_b h 118 zk.toNat).toInt = (mx_l h 14004).toInt := by rw [lg_cmp0 c3]
      unfold lc_r lc_t
      rw [if_neg (by omega), if_pos c2, y]
theorem me_literalx (hS : ab_Sh sx_sk h) (hl : lc_ok h) (ht : (mi_f h 14001 = 3 ∧ 1 ≤ (mx_l h 14004).toInt ∧ (mx_l h 14004).toInt ≤ 1073741823) ∨ (mi_f h 14001 = 4 ∧ 1 ≤ (mx_l h 14004).toInt ∧ (mx_l h 14004).toInt ≤ 255)) : me_E d 191 0 [some (.inr (.inr 109)), none] [] h (lt_Q h) := by
  refine mt_liteA hS (fun h1 g1 g2 => ?_)
  have e := me_nil g2
  subst e
  exact lite2 hS hl ht 22 0 (by decide) (by decide) (by decide) (fun j hj => by omega)
end RSX
