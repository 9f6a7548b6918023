/-! which codes are keywords, exactly -/
def gx_kw (n : Int) (B : Nat → Int64) (v : Int) : Bool := (List.range n.toNat).any (fun l => decide (B l ≠ 0 ∧ (B l).toInt = v))
theorem gx_kw_iff {n : Int} {B : Nat → Int64} {v : Int} : gx_kw n B v = true ↔ ∃ l : Nat, (l : Int) < n ∧ B l ≠ 0 ∧ (B l).toInt = v := by
  unfold gx_kw
  rw [List.any_eq_true]
  constructor
  · rintro ⟨l, h1, h2⟩
    have h1 := List.mem_range.mp h1
    have h2 := of_decide_eq_true h2
    exact ⟨l, by omega, h2.1, h2.2⟩
  · rintro ⟨l, h1, h2, h3⟩
    exact ⟨l, List.mem_range.mpr (by omega), decide_eq_true ⟨h2, h3⟩⟩
section GX3
variable {d : Nat}
theorem gx_cmpn {x y : Int64} (h : (lg_cmp x y).toInt ≠ 0) : x ≠ y := by
  intro e
  subst e
  apply h
  unfold lg_cmp
  split
  · next q => exact absurd q (by first | exact Int64.lt_irrefl _ | simp)
  · split
    · rfl
    · next q => exact absurd rfl q
theorem me_kwBx {zw : Int64} : ∀ (N : Nat) (zl : Int) (h : sm_H), ab_Sh sx_sk h → 20 - zl < N → 0 ≤ zl → zl ≤ 20 → (∀ l : Nat, (l : Int) < zl → ¬ (mx_b h 118 l ≠ 0 ∧ mx_b h 118 l = zw)) → me_E d 216 2 [some (.inr (.inr 109)), some (.inr (.inl zw)), none, some (.inl zl)] [] h (fun w h' => ab_Sh sx_sk h' ∧ ab_Fr [] h h' ∧ ∃ z, w = some (.inl z) ∧ -1 ≤ z ∧ z < 20 ∧ (0 ≤ z → mx_b h 118 z.toNat = zw) ∧ (0 ≤ z ↔ ∃ l : Nat, (l : Int) < mi_f h 13962 ∧ mx_b h 118 l ≠ 0 ∧ mx_b h 118 l = zw)) := by
  intro N
  induction N with
  | zero => intro zl h hS h1 h2 h3; omega
  | succ N ih =>
    intro zl h hS h1 h2 h3 hno
    have ok : mi_in zl := ⟨by omega, by omega⟩
    have back : ∀ h1, ab_Sh sx_sk h1 → ab_Fr [] h h1 → zl < mi_f h 13962 → mi_f h 13962 ≤ 20 → ¬ (mx_b h 118 zl.toNat ≠ 0 ∧ mx_b h 118 zl.toNat = zw) → me_E d 216 2 [some (.inr (.inr 109)), some (.inr (.inl zw)), none, some (.inl (zl + 1))] [] h1 (fun w h' => ab_Sh sx_sk h' ∧ ab_Fr [] h h' ∧ ∃ z, w = some (.inl z) ∧ -1 ≤ z ∧ z < 20 ∧ (0 ≤ z → mx_b h 118 z.toNat = zw) ∧ (0 ≤ z ↔ ∃ l : Nat, (l : Int) < mi_f h 13962 ∧ mx_b h 118 l ≠ 0 ∧ mx_b h 118 l = zw)) := by
      intro h1 g1 g2 c b nn
      have eb : ∀ i, mx_b h1 118 i = mx_b h 118 i := fun i => me_b (k := 118) g2 hS rfl rfl
      have ef : mi_f h1 13962 = mi_f h 13962 := me_f (c := 13962) g2 hS rfl rfl
      refine (ih _ h1 g1 (by omega) (by omega) (by omega) (fun l hl => ?_)).imp (fun w h' hq => ⟨hq.1, g2.trans hq.2.1, ?_⟩)
      · rw [eb]
        by_cases e : (l : Int) = zl
        · have : zl.toNat = l := by omega
          rw [this] at nn
          exact nn
        · exact hno l (by omega)
      · obtain ⟨z, z1, z2, z3, z4, z5⟩ := hq.2.2
        simp only [eb, ef] at z4 z5
        exact ⟨z, z1, z2, z3, z4, z5⟩
    refine mt_kwB hS ok ?_ ?_ ?_ ?_
    · intro b c1 h1 g1 g2
      refine ⟨g1, g2, -1, rfl, by decide, by decide, fun h => absurd h (by decide), fun h => absurd h (by decide), ?_⟩
      rintro ⟨l, l1, l2, l3⟩
      exact absurd ⟨l2, l3⟩ (hno l (by omega))
    · intro b c1 c2
      exact ⟨by omega, fun h1 g1 g2 => back h1 g1 g2 c1 b.2 (fun q => q.1 (lg_cmp0 c2))⟩
    · intro b c1 c2 c3
      exact ⟨by omega, fun h1 g1 g2 => back h1 g1 g2 c1 b.2 (fun q => gx_cmpn c3 q.2)⟩
    · intro b c1 c2 c3
      exact ⟨by omega, fun h1 g1 g2 => ⟨g1, g2, zl, rfl, by omega, by omega, fun _ => lg_cmp0 c3, fun _ => ⟨zl.toNat, by omega, gx_cmpn c2, lg_cmp0 c3⟩, fun _ => by omega⟩⟩
theorem me_keywordOfx {zw : Int64} {h : sm_H} (hS : ab_Sh sx_sk h) : me_E d 216 0 [some (.inr (.inr 109)), some (.inr (.inl zw)), none, none] [] h (fun w h' => ab_Sh sx_sk h' ∧ ab_Fr [] h h' ∧ ∃ z, w = some (.inl z) ∧ -1 ≤ z ∧ z < 20 ∧ (0 ≤ z → mx_b h 118 z.toNat = zw) ∧ (0 ≤ z ↔ gx_kw (mi_f h 13962) (mx_b h 118) zw.toInt = true)) := by
  refine mt_kwA hS ?_
  intro h1 g1 g2
  have eb : ∀ i, mx_b h1 118 i = mx_b h 118 i := fun i => me_b (k := 118) g2 hS rfl rfl
  have ef : mi_f h1 13962 = mi_f h 13962 := me_f (c := 13962) g2 hS rfl rfl
  refine (me_kwBx 30 0 h1 g1 (by omega) (by omega) (by omega) (fun l hl => by omega)).imp (fun w h' hq => ⟨hq.1, g2.trans hq.2.1, ?_⟩)
  obtain ⟨z, z1, z2, z3, z4, z5⟩ := hq.2.2
  simp only [eb, ef] at z4 z5
  refine ⟨z, z1, z2, z3, z4, z5.trans ?_⟩
  rw [gx_kw_iff]
  constructor
  · rintro ⟨l, l1, l2, l3⟩
    exact ⟨l, l1, l2, by rw [l3]⟩
  · rintro ⟨l, l1, l2, l3⟩
    exact ⟨l, l1, l2, Int64.toInt_inj.mp l3⟩
end GX3
