/-! reading: a group is closed -/
section RDK
variable {g : wk_g} {Y : wk_Y} {z : rd_Z}
def rd_yk (g : wk_g) (Y : wk_Y) (z : rd_Z) : wk_Y := (fun w => if w = g 148 (rd_k z).toNat then wk_u Y else wk_e Y w, fun w => wk_c Y w, fun f => wk_b Y f, fun f => if f = g 146 (rd_k z).toNat then wk_u Y else wk_x Y f, fun f => wk_d Y f, wk_u Y, wk_f Y)
def rd_zk (z : rd_Z) : rd_Z := (fun a => rd_ow z a, fun a => rd_ix z a, rd_a z, rd_k z - 1)
theorem rd_close (hI : rd_I g Y z 1) (hk : 1 ≤ rd_k z) : rd_I g (rd_yk g Y z) (rd_zk z) 1 ∧ rd_loose g (rd_yk g Y z) (rd_zk z) (g 148 (rd_k z).toNat) := by
  obtain ⟨⟨n1, n2, n3, n4, n5, n6, n7⟩, i1, i2, i3, i4, i5⟩ := hI
  obtain ⟨⟨f0, f1, f2, f3⟩, l2, l3, l4, l5, l6⟩ := i4 (rd_k z) (by omega) (Int.le_refl _)
  obtain ⟨⟨c0, c1, c2, c3⟩, m2, m3, m4, m5, m6⟩ := i4 (rd_k z - 1) (by omega) (by omega)
  obtain ⟨x1, x2, x3, x4, x5, x6, x7, x8, x9, x10⟩ := i5 (rd_k z) hk (Int.le_refl _)
  have top : rd_top g Y z (rd_k z) = wk_u Y := if_neg (Int.lt_irrefl _)
  have top1 : rd_top g Y z (rd_k z - 1) = g 148 (rd_k z).toNat := by
    unfold rd_top
    rw [if_pos (by omega), show rd_k z - 1 + 1 = rd_k z from by omega]
  have yu : wk_u (rd_yk g Y z) = wk_u Y := rfl
  have yf : wk_f (rd_yk g Y z) = wk_f Y := rfl
  have yb : ∀ f, wk_b (rd_yk g Y z) f = wk_b Y f := fun _ => rfl
  have yd : ∀ f, wk_d (rd_yk g Y z) f = wk_d Y f := fun _ => rfl
  have yc : ∀ w, wk_c (rd_yk g Y z) w = wk_c Y w := fun _ => rfl
  have ye : ∀ w, w ≠ g 148 (rd_k z).toNat → wk_e (rd_yk g Y z) w = wk_e Y w := fun w h => if_neg h
  have yeU : wk_e (rd_yk g Y z) (g 148 (rd_k z).toNat) = wk_u Y := if_pos rfl
  have yx : ∀ f, f ≠ g 146 (rd_k z).toNat → wk_x (rd_yk g Y z) f = wk_x Y f := fun f h => if_neg h
  have yxU : wk_x (rd_yk g Y z) (g 146 (rd_k z).toNat) = wk_u Y := if_pos rfl
  have zk : rd_k (rd_zk z) = rd_k z - 1 := rfl
  have za : rd_a (rd_zk z) = rd_a z := rfl
  have zo : ∀ a, rd_ow (rd_zk z) a = rd_ow z a := fun _ => rfl
  have zi : ∀ a, rd_ix (rd_zk z) a = rd_ix z a := fun _ => rfl
  have dis : ∀ i j, 0 ≤ i → i ≤ rd_k z → 0 ≤ j → j ≤ rd_k z → i ≠ j → g 146 i.toNat ≠ g 146 j.toNat := fun i j h0 h1 h2 h3 hne e => by
    obtain ⟨⟨-, -, t2, -⟩, -⟩ := i4 i h0 h1
    obtain ⟨⟨-, -, s2, -⟩, -⟩ := i4 j h2 h3
    rw [e, s2] at t2
    omega
  have hfk : g 146 (rd_k z - 1).toNat ≠ g 146 (rd_k z).toNat := dis _ _ (by omega) (by omega) (by omega) (by omega) (by omega)
  have xle : ∀ f, 0 ≤ f → f < wk_f Y → wk_x (rd_yk g Y z) f ≤ 60 ∧ (f ≠ g 146 (rd_k z).toNat ∨ wk_x Y f = 60) := fun f h0 h1 => by
    by_cases c : f = g 146 (rd_k z).toNat
    · subst c
      rw [yxU]
      exact ⟨n2, Or.inr f3⟩
    · rw [yx f c]
      exact ⟨(i2 f h0 h1).2.2.2.2.2.2.1, Or.inl c⟩
  refine ⟨⟨⟨n1, n2, n3, n4, n5, n6, by rw [zk]; omega⟩, fun w h0 h1 => ?_, fun f h0 h1 => ?_, fun a h0 h1 => i3 a h0 h1, fun i h0 h1 => ?_, fun i h0 h1 => ?_⟩, ?_⟩
  · rw [yu] at h1
    obtain ⟨⟨p1, p1b, p1c, p1d, p1e⟩, p2, p3, p4, p5, p6⟩ := i1 w h0 h1
    unfold rd_unit
    simp only [yc, yu, yf, yb, yd]
    have x5' : g 119 w.toNat = 10 → wk_x (rd_yk g Y z) (g 120 w.toNat) ≤ wk_x Y (g 120 w.toNat) := fun c => by
      obtain ⟨q1, q2, -⟩ := p5 c
      by_cases e : g 120 w.toNat = g 146 (rd_k z).toNat
      · rw [e, yxU, f3]
        exact n2
      · rw [yx _ e]
        exact Int.le_refl _
    by_cases c : w = g 148 (rd_k z).toNat
    · subst c
      rw [yeU, x3, yx _ hfk, c3]
      rw [x3] at p1c p1d p1e
      refine ⟨⟨x2, n2, p1c, p1d, p1e⟩, fun q => by omega, fun q => by omega, p4, fun q => ?_, p6⟩
      obtain ⟨q1, q2, q3, q4⟩ := p5 q
      rw [x3] at q4
      refine ⟨q1, q2, ?_, q4⟩
      rw [x5, yxU, x7]
      exact Int.le_refl _
    · rw [ye w c]
      refine ⟨⟨p1, ?_, p1c, p1d, p1e⟩, p2, fun q => ?_, p4, fun q => ?_, p6⟩
      · by_cases e : wk_c Y w = g 146 (rd_k z).toNat
        · rw [e, yxU]
          rcases l3 w h0 h1 e with y | y
          · rw [top] at y
            exact y
          · exfalso; omega
        · rw [yx _ e]
          exact p1b
      · obtain ⟨q1, q2, q3, q4⟩ := p3 q
        refine ⟨q1, q2, q3, fun r => ?_⟩
        rw [ye _ (x10 w h0 h1)]
        exact q4 r
      · obtain ⟨q1, q2, q3, q4⟩ := p5 q
        have := x5' q
        exact ⟨q1, q2, by omega, q4⟩
  · have hf := i2 f h0 h1
    rw [show (if 0 ≤ rd_k z ∧ f = g 146 (rd_k z).toNat then (1 : Int) else 1) = 1 from by split <;> rfl] at hf
    rw [show (if 0 ≤ rd_k (rd_zk z) ∧ f = g 146 (rd_k (rd_zk z)).toNat then (1 : Int) else 1) = 1 from by split <;> rfl]
    obtain ⟨p1, p2, p3, p4, p5, p6, p7, p8⟩ := hf
    refine ⟨p1, p2, p3, p4, p5, ?_, (xle f h0 h1).1, p8⟩
    by_cases c : f = g 146 (rd_k z).toNat
    · subst c
      rw [yxU, yb, x7]
      exact x2
    · rw [yx f c, yb]
      exact p6
  · rw [zk] at h1
    obtain ⟨⟨t0, t1, t2, t3⟩, r2, r3, r4, r5, r6⟩ := i4 i h0 (by omega)
    have hne : g 146 i.toNat ≠ g 146 (rd_k z).toNat := dis _ _ h0 (by omega) (by omega) (by omega) (by omega)
    have tops : rd_top g Y z i ≤ rd_top g (rd_yk g Y z) (rd_zk z) i ∧ (i < rd_k z - 1 → rd_top g (rd_yk g Y z) (rd_zk z) i = rd_top g Y z i) ∧ (i = rd_k z - 1 → rd_top g (rd_yk g Y z) (rd_zk z) i = wk_u Y) := by
      by_cases c : i < rd_k z - 1
      · have e : rd_top g (rd_yk g Y z) (rd_zk z) i = rd_top g Y z i := by
          unfold rd_top
          rw [zk, if_pos c, if_pos (by omega)]
        exact ⟨by omega, fun _ => e, fun q => by omega⟩
      · have ei : i = rd_k z - 1 := by omega
        have e : rd_top g (rd_yk g Y z) (rd_zk z) i = wk_u Y := by
          unfold rd_top
          rw [zk, if_neg c]
          rfl
        refine ⟨?_, fun q => absurd q c, fun _ => e⟩
        rw [e, ei, top1]
        omega
    have nu : ∀ l, 0 ≤ l → l < wk_u Y → wk_c Y l = g 146 i.toNat → wk_e Y l ≤ rd_top g Y z i → l ≠ g 148 (rd_k z).toNat := fun l l0 l1 lc le e => by
      have := (i1 l l0 l1).1.1
      rw [e, x3] at lc
      by_cases c : i = rd_k z - 1
      · subst c
        rw [top1] at le
        omega
      · exact dis _ _ (by omega) (by omega) h0 (by omega) (fun q => c q.symm) lc
    unfold rd_lev
    simp only [yc, yu, yf, yd, za]
    refine ⟨⟨t0, t1, t2, by rw [yx _ hne]; exact t3⟩, r2, fun w w0 w1 wc => ?_, fun c => ?_, r5, r6⟩
    · by_cases e : w = g 148 (rd_k z).toNat
      · subst e
        rw [x3] at wc
        have ei : i = rd_k z - 1 := by
          rw [← wc, c2] at t2
          exact t2.symm
        rw [yeU, tops.2.2 ei]
        exact Or.inl (Int.le_refl _)
      · rw [ye w e]
        rcases r3 w w0 w1 wc with y | y
        · exact Or.inl (by omega)
        · by_cases c : i < rd_k z - 1
          · exact Or.inr ⟨by rw [zk]; exact c, y.2⟩
          · exfalso
            have ei : i + 1 = rd_k z := by omega
            rw [ei] at y
            exact e y.2
    · obtain ⟨y1, y2, y3, y4, y5, y6⟩ := r4 c
      rw [ye _ (nu _ c y1 y2 y3)]
      refine ⟨y1, y2, by omega, y4, fun q => ?_, y6⟩
      rw [ye _ (x10 _ c y1)]
      have := y5 q
      omega
  · rw [zk] at h1
    obtain ⟨y1, y2, y3, y4, y5, y6, y7, y8, y9, y10⟩ := i5 i h0 (by omega)
    have hne : g 148 i.toNat ≠ g 148 (rd_k z).toNat := fun e => by
      rw [e, x3] at y3
      exact dis _ _ (by omega) (by omega) (by omega) (by omega) (by omega) y3
    exact ⟨y1, y2, y3, y4, y5, by rw [ye _ hne]; exact y6, y7, y8, y9, y10⟩
  · unfold rd_loose
    rw [yu, yeU, zk]
    refine ⟨x1, x2, x3, Int.le_refl _, x8, x9, x10, fun c => ?_⟩
    obtain ⟨y1, y2, y3, y4, y5, y6⟩ := m4 c
    rw [top1] at y3 y5
    have hlt := (i1 _ c y1).1.1
    rw [ye _ (by omega)]
    refine ⟨y3, fun q => ?_⟩
    rw [ye _ (x10 _ c y1)]
    exact y5 q
end RDK
