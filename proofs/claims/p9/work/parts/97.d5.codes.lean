/-! words and their codes -/
theorem tx_code_cg {c c' : Nat → Int} : ∀ (m : Nat) (k k' : Int), (∀ j : Nat, j < m → c (k + j).toNat = c' (k' + j).toNat) → tx_code c k m = tx_code c' k' m := by
  intro m
  induction m with
  | zero => intro k k' _; rfl
  | succ m ih =>
    intro k k' h
    have h0 := h 0 (by omega)
    rw [show k + ((0 : Nat) : Int) = k by omega, show k' + ((0 : Nat) : Int) = k' by omega] at h0
    have := ih (k + 1) (k' + 1) (fun j hj => by
      have := h (j + 1) (by omega)
      rw [show k + ((j + 1 : Nat) : Int) = k + 1 + j by omega, show k' + ((j + 1 : Nat) : Int) = k' + 1 + j by omega] at this
      exact this)
    show (c k.toNat - 96) + 32 * tx_code c (k + 1) m = (c' k'.toNat - 96) + 32 * tx_code c' (k' + 1) m
    rw [h0, this]
theorem tx_code_inj {c c' : Nat → Int} : ∀ (m m' : Nat) (k k' : Int), (∀ j : Nat, j < m → tx_low (c (k + j).toNat)) → (∀ j : Nat, j < m' → tx_low (c' (k' + j).toNat)) → tx_code c k m = tx_code c' k' m' → m = m' ∧ ∀ j : Nat, j < m → c (k + j).toNat = c' (k' + j).toNat := by
  intro m
  induction m with
  | zero =>
    intro m' k k' _ h' e
    cases m' with
    | zero => exact ⟨rfl, fun j hj => by omega⟩
    | succ m' =>
      exfalso
      have h0 := h' 0 (by omega)
      rw [show k' + ((0 : Nat) : Int) = k' by omega] at h0
      have cb := tx_code_b (c := c') m' (k' + 1) (fun j a1 a2 => by
        have := h' (j - k').toNat (by omega)
        rw [show k' + (((j - k').toNat : Nat) : Int) = j by omega] at this
        exact this)
      have e : (0 : Int) = (c' k'.toNat - 96) + 32 * tx_code c' (k' + 1) m' := e
      have := h0.1
      omega
  | succ m ih =>
    intro m' k k' h h' e
    have h0 := h 0 (by omega)
    rw [show k + ((0 : Nat) : Int) = k by omega] at h0
    have cb := tx_code_b (c := c) m (k + 1) (fun j a1 a2 => by
      have := h (j - k).toNat (by omega)
      rw [show k + (((j - k).toNat : Nat) : Int) = j by omega] at this
      exact this)
    cases m' with
    | zero =>
      exfalso
      have e : (c k.toNat - 96) + 32 * tx_code c (k + 1) m = 0 := e
      have := h0.1
      omega
    | succ m' =>
      have h0' := h' 0 (by omega)
      rw [show k' + ((0 : Nat) : Int) = k' by omega] at h0'
      have e : (c k.toNat - 96) + 32 * tx_code c (k + 1) m = (c' k'.toNat - 96) + 32 * tx_code c' (k' + 1) m' := e
      unfold tx_low at h0 h0'
      obtain ⟨i1, i2⟩ := ih m' (k + 1) (k' + 1) (fun j hj => by
        have := h (j + 1) (by omega)
        rw [show k + ((j + 1 : Nat) : Int) = k + 1 + j by omega] at this
        exact this) (fun j hj => by
        have := h' (j + 1) (by omega)
        rw [show k' + ((j + 1 : Nat) : Int) = k' + 1 + j by omega] at this
        exact this) (by omega)
      refine ⟨by omega, fun j hj => ?_⟩
      cases j with
      | zero =>
        rw [show k + ((0 : Nat) : Int) = k by omega, show k' + ((0 : Nat) : Int) = k' by omega]
        omega
      | succ j =>
        rw [show k + ((j + 1 : Nat) : Int) = k + 1 + j by omega, show k' + ((j + 1 : Nat) : Int) = k' + 1 + j by omega]
        exact i2 j (by omega)
/-- a word stands there if its code does -/
theorem wd_iff {h : sm_H} {p e κ : Int} {ws : List Int} (p0 : 0 ≤ p) (he : tx_end tx_low (mi_f h 6657) (mi_a h 53) p e) (hl : ws.length ≤ 6) (hw : ws.all (fun z => decide (97 ≤ z ∧ z ≤ 122)) = true) (hκ : tx_code (fun i => ws.getD i 0) 0 ws.length = κ) : (e - p = (ws.length : Int) ∧ wd_m h p ws) ↔ (e - p ≤ 6 ∧ tx_code (mi_a h 53) p (e - p).toNat = κ) := by
  obtain ⟨e1, e2, e3⟩ := he
  have lowW : ∀ j : Nat, j < ws.length → tx_low ((fun i => ws.getD i 0) ((0 : Int) + j).toNat) := fun j hj => by
    have hm : ws.getD j 0 ∈ ws := by
      rw [List.getD_eq_getElem?_getD, List.getElem?_eq_getElem hj]
      exact List.getElem_mem hj
    have := of_decide_eq_true (List.all_eq_true.mp hw _ hm)
    show tx_low (ws.getD ((0 : Int) + j).toNat 0)
    rw [show ((0 : Int) + j).toNat = j by omega]
    exact this
  have at_ : ∀ j : Nat, (j : Int) < e - p → cx_at h (p + j) = mi_a h 53 (p + j).toNat := fun j hj => by
    have := (e2 (p + j) (by omega) (by omega)).1
    unfold cx_at
    rw [if_pos ⟨by omega, this⟩]
  have lowC : ∀ j : Nat, j < (e - p).toNat → tx_low (mi_a h 53 (p + j).toNat) := fun j hj => (e2 (p + j) (by omega) (by omega)).2
  constructor
  · rintro ⟨a1, a2⟩
    refine ⟨by omega, ?_⟩
    rw [← hκ, a1, show ((ws.length : Int)).toNat = ws.length from rfl]
    refine tx_code_cg ws.length p 0 (fun j hj => ?_)
    rw [← at_ j (by omega), a2 j hj, show ((0 : Int) + j).toNat = j by omega]
  · rintro ⟨a1, a2⟩
    obtain ⟨i1, i2⟩ := tx_code_inj _ _ p 0 lowC lowW (a2.trans hκ.symm)
    refine ⟨by omega, fun j hj => ?_⟩
    rw [at_ j (by omega), i2 j (by omega), show ((0 : Int) + j).toNat = j by omega]
def so_c (v : Int) : Int := if v = 609302190 then 1 else if v = 177198 then 2 else if v = 26886565 then 3 else if v = 11994498 then 4 else if v = 178476 then 5 else if v = 609752228 then 6 else if v = 363554 then 7 else 12
/-! where a character stands among the marks -/
def xc_lat : ab_C := (30, [(3, 8, 0, [])], [], [((1, 1, 1, []), [])], [], 5)
theorem xo_lat : ab_Ok sc_P sx_sk xc_lat := ab_good_ok (env := []) (heads := []) (fuel := 40) (by decide +kernel) (fun _ h => absurd h List.not_mem_nil)
def xc_enc : ab_C := (43, [(1, 0, 126, [])], [], [((1, 1, 1, []), [])], [], 5)
theorem xo_enc : ab_Ok sc_P sx_sk xc_enc := ab_good_ok (env := []) (heads := []) (fuel := 40) (by decide +kernel) (fun _ h => absurd h List.not_mem_nil)
def xc_len_8 : ab_C := (27, [(3, 8, 0, [])], [], [((1, 8, 8, []), [])], [], 5)
theorem xo_len_8 : ab_Ok sc_P sx_sk xc_len_8 := ab_good_ok (env := []) (heads := []) (fuel := 40) (by decide +kernel) (fun _ h => absurd h List.not_mem_nil)
def ix_w : List Int := [61, 59, 124, 42, 63, 41, 126, 43]
def ix_Q (h : sm_H) (zc : Int) (w : Option mi_V) (h' : sm_H) : Prop := h' = h ∧ ∃ z, w = some (.inl z) ∧ mi_in z ∧ (0 ≤ z ↔ tx_own zc ∧ zc ≠ 40)
section IDX
variable {d : Nat} {h : sm_H} {zc : Int}
theorem ix_at (hS : ab_Sh sx_sk h) {i : Nat} (hi : i < 8) : mi_a h 33 i = ix_w.getD i 0 := by
  obtain ⟨f, hh, hf⟩ := mx_arr (a := 33) (t := 4) (n := 8) (lo := -128) (hi := 127) (ex := ix_w) hS rfl (by decide)
  obtain ⟨-, -, e⟩ := hf i hi
  have e1 : mi_a h 33 i = (f i).toInt := by
    unfold mi_a mx_a
    rw [hh]
  rw [e1]
  refine e _ ?_
  rw [List.getD_eq_getElem?_getD, List.getElem?_eq_getElem (show i < ix_w.length from hi)]
  rfl
theorem ix7 (hS : ab_Sh sx_sk h) (c0 : 0 ≤ zc) (c1 : zc ≤ 126) : ∀ (N : Nat) (zi : Int), 8 - zi < N → 0 ≤ zi → zi ≤ 8 → (∀ j : Nat, (j : Int) < zi → ix_w.getD j 0 ≠ zc) → me_E d 44 7 [some (.inr (.inr 33)), some (.inl zc), some (.inl 0), some (.inl 8), some (.inl zc), some (.inl zi)] [] h (ix_Q h zc) := by
  intro N
  induction N with
  | zero => intro zi hN i0 i1; exfalso; omega
  | succ N ih =>
    intro zi hN i0 i1 hn
    have oc : mi_in zc := ⟨by omega, by omega⟩
    refine mt_ixB hS oc ⟨by decide, by decide⟩ ⟨by decide, by decide⟩ oc ⟨by omega, by omega⟩ ?_ ?_ ?_
    · intro c h1 g1 g2
      have n0 : (61 : Int) ≠ zc := hn 0 (by omega)
      have n1 : (59 : Int) ≠ zc := hn 1 (by omega)
      have n2 : (124 : Int) ≠ zc := hn 2 (by omega)
      have n3 : (42 : Int) ≠ zc := hn 3 (by omega)
      have n4 : (63 : Int) ≠ zc := hn 4 (by omega)
      have n5 : (41 : Int) ≠ zc := hn 5 (by omega)
      have n6 : (126 : Int) ≠ zc := hn 6 (by omega)
      have n7 : (43 : Int) ≠ zc := hn 7 (by omega)
      refine ⟨me_nil g2, -1, rfl, ⟨by decide, by decide⟩, fun x => absurd x (by decide), fun x => ?_⟩
      unfold tx_own at x
      omega
    · intro c c2
      rw [ix_at hS (by omega)] at c2
      refine ⟨⟨⟨by omega, by omega⟩, ⟨by omega, by omega⟩⟩, fun h1 g1 g2 => ?_⟩
      have e := me_nil g2
      subst e
      refine ih (zi + 1) (by omega) (by omega) (by omega) (fun j hj => ?_)
      by_cases ej : (j : Int) = zi
      · rw [show j = zi.toNat by omega]
        exact c2
      · exact hn j (by omega)
    · intro c c2
      rw [ix_at hS (by omega)] at c2
      refine ⟨⟨by omega, by omega⟩, fun h1 g1 g2 => ⟨me_nil g2, zi, rfl, ⟨by omega, by omega⟩, fun _ => ?_, fun _ => i0⟩⟩
      rw [← c2]
      rcases (show zi = 0 ∨ zi = 1 ∨ zi = 2 ∨ zi = 3 ∨ zi = 4 ∨ zi = 5 ∨ zi = 6 ∨ zi = 7 by omega) with rfl | rfl | rfl | rfl | rfl | rfl | rfl | rfl <;> exact ⟨by unfold tx_own; decide, by decide⟩
theorem me_idx (hS : ab_Sh sx_sk h) (c0 : 0 ≤ zc) (c1 : zc ≤ 126) : me_E (d + 8) 40 0 [some (.inr (.inr 8)), some (.inl zc)] [] h (ix_Q h zc) := by
  have oc : mi_in zc := ⟨by omega, by omega⟩
  have o0 : mi_in 0 := ⟨by decide, by decide⟩
  have o8 : mi_in 8 := ⟨by decide, by decide⟩
  have A42 : me_E (d + 6) 42 0 [some (.inr (.inr 33)), some (.inl zc), some (.inl 0), some (.inl 8)] [] h (ix_Q h zc) := by
    refine mt_iyA hS oc o0 o8 (fun h1 g1 g2 => ?_)
    have e := me_nil g2
    subst e
    refine ⟨_, me_abs1 (d := d) (m := 43) (M := (1, 4, sb_43)) (as := [.inl zc]) (z := 1) xo_enc rfl rfl (by decide) hS ⟨me_nv1 oc c0 c1, trivial⟩, fun w h2 ow hq => ?_⟩
    obtain ⟨rfl, rfl⟩ := hq
    refine mt_iyB (zz := 1) hS oc o0 o8 ⟨by decide, by decide⟩ ?_ ?_ ?_ ?_ ?_ ?_ ?_ ?_
    · intro _ c; exact absurd c (by decide)
    · intro _ c; exact absurd c (by decide)
    · intro _ c; exact absurd c (by decide)
    · intro _ _ c; exact absurd c (by decide)
    · intro _ _ c; exact absurd c (by decide)
    · intro _ _ _ _ h3 g1 g2
      have e := me_nil g2
      subst e
      refine ⟨ix_Q h3 zc, ?_, fun w h4 ow hq => ?_⟩
      · refine mt_ixA (d := d + 5) hS oc o0 o8 ⟨⟨by omega, by omega⟩, fun h4 g1 g2 => ?_⟩
        have e := me_nil g2
        subst e
        exact ix7 hS c0 c1 10 0 (by decide) (by decide) (by decide) (fun j hj => by omega)
      · obtain ⟨rfl, z, rfl, oz, hz⟩ := hq
        refine mt_iyC (zz := z) hS oc o0 o8 oz (fun h5 g1 g2 => ⟨me_nil g2, z, rfl, oz, hz⟩)
    · intro _ _ _ c; exact absurd c (by decide)
    · intro c; exact absurd c (by decide)
  refine mt_iwA hS oc (fun h1 g1 g2 => ?_)
  have e := me_nil g2
  subst e
  refine ⟨ix_Q h1 zc, ?_, fun w h2 ow hq => ?_⟩
  · refine mt_izA hS oc o0 (fun h2 g1 g2 => ?_)
    have e := me_nil g2
    subst e
    refine ⟨_, me_abs1 (d := d + 1) (m := 30) (M := (1, 4, sb_30)) (as := [.inr (.inr 8)]) (z := 1) xo_lat rfl rfl (by decide) hS ⟨rfl, trivial⟩, fun w h3 ow hq => ?_⟩
    obtain ⟨rfl, rfl⟩ := hq
    refine mt_izB (zz := 1) hS oc o0 ⟨by decide, by decide⟩ (fun c => absurd c (by decide)) (fun _ h4 g1 g2 => ?_)
    have e := me_nil g2
    subst e
    refine ⟨_, me_abs1 (d := d + 1) (m := 27) (M := (1, 1, sb_27)) (as := [.inr (.inr 8)]) (z := 8) xo_len_8 rfl rfl (by decide) hS ⟨rfl, trivial⟩, fun w h5 ow hq => ?_⟩
    obtain ⟨rfl, rfl⟩ := hq
    refine mt_izC hS oc o0 o8 (fun h6 g1 g2 => ?_)
    have e := me_nil g2
    subst e
    refine ⟨_, A42, fun w h7 ow hq => ?_⟩
    obtain ⟨rfl, z, rfl, oz, hz⟩ := hq
    exact mt_izD (zz := z) hS oc o0 oz (fun h8 g1 g2 => ⟨me_nil g2, z, rfl, oz, hz⟩)
  · obtain ⟨rfl, z, rfl, oz, hz⟩ := hq
    exact mt_iwB (zz := z) hS oc oz (fun h3 g1 g2 => ⟨me_nil g2, z, rfl, oz, hz⟩)
end IDX
