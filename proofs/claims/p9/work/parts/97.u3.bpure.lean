/-! begins as a second system of the same kind -/
def b64 (z : Int) : Int64 := (Int32.ofInt z).toInt64
def bitC (F : Int) : Int64 := (Int32.ofInt 1 <<< (Int32.ofInt F &&& 31)).toInt64
/-- what a part brings -/
def cb_C (B : Nat → Int64) (p : sp_P) : Int64 := if 0 ≤ p.1 then (if p.2.1 ≠ 0 then bitC p.1 ||| B p.1.toNat else B p.1.toNat) else 0
def sb_a (X : sp_X) : List sp_P → Int64
  | [] => 0
  | p :: r => if sp_e X p then cb_C X.2.1 p ||| sb_a X r else cb_C X.2.1 p
theorem sb_a_c {X : sp_X} {p : sp_P} {r : List sp_P} : sb_a X (p :: r) = if sp_e X p then cb_C X.2.1 p ||| sb_a X r else cb_C X.2.1 p := rfl
def sb_f (X : sp_X) : List (List sp_P) → Int64
  | [] => 0
  | a :: r => sb_a X a ||| sb_f X r
theorem sb_f_c {X : sp_X} {a : List sp_P} {r : List (List sp_P)} : sb_f X (a :: r) = sb_a X a ||| sb_f X r := rfl
/-- the same by starts: before a use a part that may be passed, with its bit -/
def bp (p : sp_P) : List sp_P := if 0 ≤ p.1 ∧ p.2.1 ≠ 0 then [(-1, 0, 1, 1, bitC p.1), (p.1, p.2.1, p.2.2.1, p.2.2.2.1, 0)] else [(p.1, p.2.1, p.2.2.1, p.2.2.2.1, 0)]
def bl (us : List sp_P) : List sp_P := us.flatMap bp
def bG (G : sg_G) : sg_G := fun F => (G F).map bl
theorem b64_or (a b : Int) : b64 (Int32.ofInt a ||| Int32.ofInt b).toInt = b64 a ||| b64 b := by
  unfold b64
  rw [Int32.ofInt_toInt, Int32.toInt64_or]
theorem b64_0 : b64 0 = 0 := rfl
theorem or_0l (x : Int64) : 0 ||| x = x := tb_ext (fun b => by rw [tb_or, tb_0, Bool.false_or])
theorem b64_inj {a b : Int} (ha : mi_in a) (hb : mi_in b) (h : b64 a = b64 b) : a = b := by
  unfold b64 at h
  have h : (Int32.ofInt a).toInt64.toInt = (Int32.ofInt b).toInt64.toInt := by rw [h]
  rw [Int32.toInt_toInt64, Int32.toInt_toInt64, mi_ti ha, mi_ti hb] at h
  exact h
section BPL
variable {X : sp_X}
theorem bl_c (p : sp_P) (r : List sp_P) : bl (p :: r) = bp p ++ bl r := rfl
theorem bp_v {p : sp_P} : sp_v X (p.1, p.2.1, p.2.2.1, p.2.2.2.1, 0) = sp_v X p := rfl
theorem bp_h {p : sp_P} : sp_h X (p.1, p.2.1, p.2.2.1, p.2.2.2.1, 0) = sp_h X p := rfl
theorem bl_v : ∀ us : List sp_P, sa_v X (bl us) = sa_v X us := by
  intro us
  induction us with
  | nil => rfl
  | cons p r ih =>
    rw [bl_c]
    unfold bp
    split
    · show sa_v X ((-1, 0, 1, 1, bitC p.1) :: (p.1, p.2.1, p.2.2.1, p.2.2.2.1, 0) :: bl r) = _
      rw [sa_v_c, if_pos (Or.inl (show (1 : Int) ≠ 0 from by decide)), sa_v_c, sa_v_c, ih]
      rfl
    · show sa_v X ((p.1, p.2.1, p.2.2.1, p.2.2.2.1, 0) :: bl r) = _
      rw [sa_v_c, sa_v_c, ih]
      rfl
theorem bl_h : ∀ us : List sp_P, sa_h X (bl us) = sa_h X us := by
  intro us
  induction us with
  | nil => rfl
  | cons p r ih =>
    have h0 := sa_h_0 X r
    rw [bl_c]
    unfold bp
    split
    · show sa_h X ((-1, 0, 1, 1, bitC p.1) :: (p.1, p.2.1, p.2.2.1, p.2.2.2.1, 0) :: bl r) = _
      rw [sa_h_c, sa_h_c, sa_h_c, ih, bp_h]
      have : sp_h X (-1, 0, 1, 1, bitC p.1) = 0 := by unfold sp_h; rw [if_pos (show (1 : Int) ≠ 0 from by decide)]
      rw [this]
      omega
    · show sa_h X ((p.1, p.2.1, p.2.2.1, p.2.2.2.1, 0) :: bl r) = _
      rw [sa_h_c, sa_h_c, ih, bp_h]
theorem bl_s : ∀ us : List sp_P, sa_s X (bl us) = sb_a X us := by
  intro us
  induction us with
  | nil => rfl
  | cons p r ih =>
    rw [bl_c, sb_a_c]
    have e0 : sp_s X (p.1, p.2.1, p.2.2.1, p.2.2.2.1, 0) = if 0 ≤ p.1 then X.2.1 p.1.toNat else 0 := rfl
    unfold bp
    split
    · next c =>
      show sa_s X ((-1, 0, 1, 1, bitC p.1) :: (p.1, p.2.1, p.2.2.1, p.2.2.2.1, 0) :: bl r) = _
      have e1 : sp_s X (-1, 0, 1, 1, bitC p.1) = bitC p.1 := by unfold sp_s; rw [if_neg (show ¬ (0 : Int) ≤ -1 from by decide)]
      have e2 : cb_C X.2.1 p = bitC p.1 ||| X.2.1 p.1.toNat := by unfold cb_C; rw [if_pos c.1, if_pos c.2]
      rw [sa_s_c, if_pos (Or.inl (show (1 : Int) ≠ 0 from by decide)), e1, sa_s_c, e0, if_pos c.1, ih, e2]
      by_cases ce : sp_e X p
      · rw [if_pos ce, if_pos (show sp_e X (p.1, p.2.1, p.2.2.1, p.2.2.2.1, 0) from ce), or_as]
      · rw [if_neg ce, if_neg (show ¬ sp_e X (p.1, p.2.1, p.2.2.1, p.2.2.2.1, 0) from ce)]
    · next c =>
      show sa_s X ((p.1, p.2.1, p.2.2.1, p.2.2.2.1, 0) :: bl r) = _
      have e2 : cb_C X.2.1 p = if 0 ≤ p.1 then X.2.1 p.1.toNat else 0 := by
        unfold cb_C
        by_cases c0 : 0 ≤ p.1
        · rw [if_pos c0, if_pos c0, if_neg (fun q => c ⟨c0, q⟩)]
        · rw [if_neg c0, if_neg c0]
      rw [sa_s_c, e0, ih, e2]
      by_cases ce : sp_e X p
      · rw [if_pos ce, if_pos (show sp_e X (p.1, p.2.1, p.2.2.1, p.2.2.2.1, 0) from ce)]
      · rw [if_neg ce, if_neg (show ¬ sp_e X (p.1, p.2.1, p.2.2.1, p.2.2.2.1, 0) from ce)]
theorem bG_f : ∀ as : List (List sp_P), sf_v X (as.map bl) = sf_v X as ∧ sf_s X (as.map bl) = sb_f X as ∧ sf_h X (as.map bl) = sf_h X as := by
  intro as
  induction as with
  | nil => exact ⟨rfl, rfl, rfl⟩
  | cons a r ih =>
    obtain ⟨i1, i2, i3⟩ := ih
    rw [List.map_cons, sf_v_c, sf_v_c, sf_s_c, sb_f_c, sf_h_c, sf_h_c, bl_v, bl_s, bl_h, i1, i2, i3]
    exact ⟨rfl, rfl, rfl⟩
theorem bG_OK {n : Nat} {G : sg_G} (h : sg_OK n G) : sg_OK n (bG G) := by
  intro F hF us hus
  obtain ⟨vs, hv, rfl⟩ := List.mem_map.mp hus
  obtain ⟨o1, o2⟩ := h F hF vs hv
  have k : ∀ q ∈ bl vs, q.1 < n ∧ 0 ≤ q.2.1 := by
    intro q hq
    obtain ⟨p, hp, hq⟩ := List.mem_flatMap.mp hq
    have p1 := o1 p hp
    have p2 := o2 p hp
    unfold bp at hq
    split at hq
    · rcases List.mem_cons.mp hq with rfl | hq
      · exact ⟨by show (-1 : Int) < n; omega, show (0 : Int) ≤ 0 from by decide⟩
      · rw [List.mem_singleton.mp hq]
        exact ⟨p1, p2⟩
    · rw [List.mem_singleton.mp hq]
      exact ⟨p1, p2⟩
  exact ⟨fun q hq => (k q hq).1, fun q hq => (k q hq).2⟩
end BPL
