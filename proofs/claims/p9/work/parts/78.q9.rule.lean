/-! reading: a rule begins; the levels of before are forgotten -/
section RDR
variable {g g' : wk_g} {Y : wk_Y} {z : rd_Z} {m : Int}
def rd_yr (Y : wk_Y) : wk_Y := (fun w => wk_e Y w, fun w => wk_c Y w, fun f => if f = wk_f Y then wk_u Y - 1 else wk_b Y f, fun f => if f = wk_f Y then 60 else wk_x Y f, fun f => if f = wk_f Y then 0 else wk_d Y f, wk_u Y, wk_f Y + 1)
def rd_zr (z : rd_Z) : rd_Z := (fun a => rd_ow z a, fun a => rd_ix z a, rd_a z, 0)
theorem rd_rule (hI : rd_I g Y z 1) (hF : wk_f Y < 80)
    (s : ∀ j, j ∈ [119, 120, 124, 125, 126, 128] → ∀ i, g' j i = g j i)
    (h129 : ∀ i : Nat, g' 129 i = if i = (wk_f Y).toNat then -1 else g 129 i) (h130 : ∀ i : Nat, g' 130 i = if i = (wk_f Y).toNat then 0 else g 130 i)
    (h146 : g' 146 0 = wk_f Y) : rd_J g' (rd_yr Y) (rd_zr z) 0 ∧ wk_Lrule (rd_yr Y) (wk_f Y) := by
  obtain ⟨⟨n1, n2, n3, n4, n5, n6, n7⟩, i1, i2, i3, -, -⟩ := hI
  have e119 := s 119 (by decide)
  have e120 := s 120 (by decide)
  have e124 := s 124 (by decide)
  have e125 := s 125 (by decide)
  have e126 := s 126 (by decide)
  have e128 := s 128 (by decide)
  have yf : wk_f (rd_yr Y) = wk_f Y + 1 := rfl
  have yu : wk_u (rd_yr Y) = wk_u Y := rfl
  have ye : ∀ w, wk_e (rd_yr Y) w = wk_e Y w := fun _ => rfl
  have yc : ∀ w, wk_c (rd_yr Y) w = wk_c Y w := fun _ => rfl
  have yb : ∀ f, f < wk_f Y → wk_b (rd_yr Y) f = wk_b Y f := fun f h => if_neg (show ¬ f = wk_f Y by omega)
  have yx : ∀ f, f < wk_f Y → wk_x (rd_yr Y) f = wk_x Y f := fun f h => if_neg (show ¬ f = wk_f Y by omega)
  have yd : ∀ f, f < wk_f Y → wk_d (rd_yr Y) f = wk_d Y f := fun f h => if_neg (show ¬ f = wk_f Y by omega)
  have ybF : wk_b (rd_yr Y) (wk_f Y) = wk_u Y - 1 := if_pos rfl
  have yxF : wk_x (rd_yr Y) (wk_f Y) = 60 := if_pos rfl
  have ydF : wk_d (rd_yr Y) (wk_f Y) = 0 := if_pos rfl
  have zk : rd_k (rd_zr z) = 0 := rfl
  have za : rd_a (rd_zr z) = rd_a z := rfl
  have k129 : ∀ f, 0 ≤ f → f < wk_f Y → g' 129 f.toNat = g 129 f.toNat := fun w a b => by rw [h129, if_neg (by omega)]
  have k130 : ∀ f, 0 ≤ f → f < wk_f Y → g' 130 f.toNat = g 130 f.toNat := fun w a b => by rw [h130, if_neg (by omega)]
  have F146 : g' 146 (rd_k (rd_zr z)).toNat = wk_f Y := h146
  have alts : ∀ n a, wk_alt g' n a = wk_alt g n a := by
    intro n
    induction n with
    | zero => intro a; rfl
    | succ n ih =>
      intro a
      show wk_alt g' n (g' 128 a.toNat) = wk_alt g n (g 128 a.toNat)
      rw [e128, ih]
  refine ⟨⟨⟨n1, n2, by rw [yf]; omega, by rw [yf]; omega, n5, n6, by rw [zk]; decide⟩, fun w h0 h1 => ?_, fun f h0 h1 => ?_, fun a h0 h1 => ?_, fun i h0 h1 => ?_, fun i h0 h1 => ?_, fun i h0 h1 => ?_⟩, ?_⟩
  · obtain ⟨⟨q1, q2, q3, q4, q5⟩, p2, p3, p4, p5, p6⟩ := i1 w h0 h1
    unfold rd_unit
    simp only [e119, e120, e124, e125, ye, yc, yu, yf]
    rw [yx _ q5, yb _ q5, yd _ q5]
    refine ⟨⟨q1, q2, q3, q4, by omega⟩, p2, p3, p4, fun x => ?_, p6⟩
    obtain ⟨y1, y2, y3, y4⟩ := p5 x
    rw [yx _ y2, yb _ y2, yd _ y2]
    exact ⟨y1, by omega, y3, y4⟩
  · rw [yf] at h1
    rw [F146]
    by_cases c : f = wk_f Y
    · subst c
      have c130 : g' 130 (wk_f Y).toNat = 0 := by rw [h130, if_pos rfl]
      have c129 : g' 129 (wk_f Y).toNat = -1 := by rw [h129, if_pos rfl]
      rw [if_pos ⟨by rw [zk]; decide, rfl⟩]
      unfold rd_form
      rw [c130, c129, ydF, ybF, yxF]
      exact ⟨by decide, by decide, Int.le_refl _, Int.le_refl _, (show (-1 : Int) < 0 from by decide), by omega, Int.le_refl _, fun j hj => by exfalso; omega⟩
    · have hf : f < wk_f Y := by omega
      have hh := i2 f h0 hf
      rw [show (if 0 ≤ rd_k z ∧ f = g 146 (rd_k z).toNat then (1 : Int) else 1) = 1 from by split <;> rfl] at hh
      rw [if_neg (fun x => c x.2)]
      unfold rd_form at hh ⊢
      simp only [k129 f h0 hf, k130 f h0 hf, alts, yd f hf, yb f hf, yx f hf]
      exact hh
  · have := i3 a h0 h1
    unfold rd_alt at this ⊢
    rw [e126]
    exact this
  · rw [zk] at h1
    have ei : i = 0 := by omega
    subst ei
    unfold rd_lev0
    rw [show g' 146 (Int.toNat 0) = wk_f Y from h146, ydF, yxF, yf]
    refine ⟨⟨n3, by omega, rfl, rfl⟩, fun x => ?_, fun w w0 w1 wc => ?_⟩
    · exfalso
      rw [h130, if_pos rfl] at x
      omega
    · exfalso
      have wc : wk_c Y w = wk_f Y := wc
      have := (i1 w w0 w1).1.2.2.2.2
      omega
  · rw [zk] at h1
    exfalso; omega
  · rw [zk] at h1
    exfalso; omega
  · refine ⟨n3, by rw [yf]; omega, ?_⟩
    rw [yxF, ybF]
    omega
end RDR
