/-! p9: what the walks ask for, out of the relation -/
/-- kinds and values of tokens -/
theorem tq_kv {n : Int} {c : Nat → Int} {m : Int} {L : Nat → Int} {a k v s e : Int} (hm : m ≤ 20) (h : tq_T n c m L a k v s e) : k < 64 ∧ (k = 2 → 0 < v ∧ lgd 6 v) := by
  obtain ⟨-, h⟩ := h
  have fz : ∀ x z, fx m L x z → z < 20 := fun x z hz => by
    rcases hz with ⟨z0, z1, -⟩ | ⟨z0, -⟩ <;> omega
  rcases h with ⟨-, k0, -⟩ | ⟨hsn, h⟩
  · exact ⟨by omega, fun q => by omega⟩
  · rcases h with ⟨-, -, h⟩ | ⟨hlow, he, h⟩ | ⟨-, -, -, z, hz, k0⟩
    · rcases h with ⟨-, k0, -⟩ | ⟨-, k0⟩
      · exact ⟨by omega, fun q => by omega⟩
      · exact ⟨by omega, fun q => by omega⟩
    · rcases h with ⟨e6, hv, z, hz, k0⟩ | ⟨-, k0⟩
      · have z1 := fz _ _ hz
        have low : ∀ j, s ≤ j → j < s + ((e - s).toNat : Int) → tx_low (c j.toNat) := fun j j0 j1 => (he.2.1 j j0 (by omega)).2
        refine ⟨by split at k0 <;> omega, fun q => ?_⟩
        have hs := he.1
        have ne : s ≠ e := fun q2 => he.2.2 (by rw [← q2]; exact ⟨hsn, hlow⟩)
        rw [hv]
        exact ⟨tx_code_p (by omega) low, lgd_up _ 6 _ (by omega) (tx_code_l _ _ low)⟩
      · exact ⟨by omega, fun q => by omega⟩
    · have z1 := fz _ _ hz
      refine ⟨by split at k0 <;> omega, fun q => ?_⟩
      split at k0 <;> omega
theorem tq_S_V {n : Int} {c : Nat → Int} {m : Int} {L : Nat → Int} {E : pm_E} {p : Int → Int} {N : Int} (hm : m ≤ 20) (h : tq_S n c m L E.1 E.2.1 p N) : pq_V E N ∧ mv_E E N := by
  obtain ⟨-, h2, h3, -⟩ := h
  refine ⟨fun j j0 j1 => ?_, h3, fun j j0 j1 q => ?_⟩
  · obtain ⟨-, -, s, hs⟩ := h2 j j0 j1
    exact ⟨(tq_kv hm hs).1, fun q => tq_v hs q⟩
  · obtain ⟨-, -, s, hs⟩ := h2 j j0 j1
    exact (tq_kv hm hs).2 q
theorem tq_S_c {n : Int} {c c' : Nat → Int} {m : Int} {L L' : Nat → Int} {K V p : Int → Int} {N : Int} (hc : ∀ i : Nat, (i : Int) < n → c' i = c i) (hL : ∀ l : Nat, (l : Int) < m → L' l = L l) (h : tq_S n c m L K V p N) : tq_S n c' m L' K V p N := by
  obtain ⟨h1, h2, h3, h4⟩ := h
  refine ⟨h1, fun j j0 j1 => ?_, h3, h4⟩
  obtain ⟨a, b, s, hs⟩ := h2 j j0 j1
  exact ⟨a, b, s, tq_T_c a hc hL hs⟩
section PR9
variable {h : sm_H} {f : Int → Int} {it : Int → Prop} {Y : wk_Y} {T : List (Int × Int × Int)}
theorem lt_O (h1 : lt_ok h) : tq_O h := fun l hl => ⟨(h1.2.2 l hl).2.2.2.1, (h1.2.2 l hl).2.2.2.2⟩
theorem prG_of (hk : r9_k h f it Y) (hi : r9_i h) : pr_G h := by
  obtain ⟨⟨g1, g2, -⟩, g3, -, ⟨pf, pa, g5⟩, g6, -, g8⟩ := hk
  refine ⟨Y, pf, pa, g1.1, g2, g6, g5 _ rfl, fun u u0 u1 q => ?_, lt_O g8, fun i i1 => ?_⟩
  · obtain ⟨-, a, b⟩ := (g3.1 u u0 u1).1 q
    exact ⟨a, b⟩
  · have := (hi.2 i i1).2
    unfold tx_al at this
    omega
theorem pcH_of (hk : r9_k h f it Y) (hi : r9_i h) {E : pm_E} {p : Int → Int} {N : Int} (eE : E.2.2 = (px_E h).2.2) (hN : N ≤ 160) (hq : tq_S (mi_f h 13954) (mi_a h 111) (mi_f h 13962) (tq_L h) E.1 E.2.1 p N) : pc_H h (mi_a h) E := by
  obtain ⟨⟨g1, g2, g2'⟩, -, g4, ⟨pf, pa, g5⟩, g6, -, g8⟩ := hk
  have hv := tq_S_V g8.2.1 hq
  refine ⟨p, N, f, it, Y, gx_k h, pf, pa, pq_tok_of (by rw [g8.1]; exact g8.2.1) ?_, ⟨hq.2.2.2, hN, hq.2.2.1⟩, hq.1, hv.1, g5 E eE, ⟨g1, g4 E eE, ⟨rfl, fun _ => rfl, rfl, fun _ => rfl⟩⟩, g2, g2'⟩
  rw [hi.1, g8.1]
  exact tq_S_c (fun i i1 => (hi.2 i i1).1) (fun l l1 => (g8.2.2 l l1).1) hq
/-- tokens there are -/
theorem tok_ex (hS : ab_Sh sx_sk h) (h2 : mi_f h 13959 = 2) (hk : r9_k h f it Y) (hi : r9_i h) : ∃ (E : pm_E) (p : Int → Int) (N : Int), E.2.2 = (px_E h).2.2 ∧ N ≤ 160 ∧ tq_S (mi_f h 13954) (mi_a h 111) (mi_f h 13962) (tq_L h) E.1 E.2.1 p N := by
  obtain ⟨n, v, h', -, w, -, -, hq⟩ := me_parsex (d := 0) hS (fun _ => prG_of hk hi)
  obtain ⟨E, p, N, e1, e2, e3, -⟩ := hq.2 (by omega)
  exact ⟨E, p, N, e1, e2, e3⟩
/-- values of the replay -/
theorem gs_vo (hT : gs_T h T) : ∀ x ∈ T, yv h (x.1 / 10) = x.2.1 := by
  intro x hx
  obtain ⟨k, hk⟩ := List.getElem?_of_mem hx
  have kl : k < T.length := by
    by_cases q : k < T.length
    · exact q
    · rw [List.getElem?_eq_none (by omega)] at hk
      cases hk
  obtain ⟨a, b, c, d1, d2⟩ := hT.2.1 k kl
  rw [hk] at c
  have c := Option.some.inj c
  rw [c]
  unfold yv
  have e : (mi_a h 155 (mi_a h 157 k).toNat + 10 * mi_a h 157 k) / 10 = mi_a h 157 k := by omega
  show (mx_b h 162 ((mi_a h 155 (mi_a h 157 k).toNat + 10 * mi_a h 157 k) / 10).toNat).toInt = _
  rw [e]
end PR9
