/-! the class's Grammar, exactly -/
section CGR
variable {d : Nat} {h h0 : sm_H}
def gd_W : List (Nat × Nat) := [(7680, 7681), (7685, 7687), (7690, 7691), (7698, 7699), (8064, 8065), (8192, 8193)]
def gd_Q (h0 : sm_H) (w : Option mi_V) (h' : sm_H) : Prop := w = none ∧ ab_Sh sx_sk h' ∧ ab_Fr gd_W h0 h' ∧ (mi_f h' 7680 = 0 ∧ mi_f h' 7685 = 0 ∧ mi_f h' 7686 = 0 ∧ mi_f h' 7690 = 0 ∧ mi_f h' 7698 = 0) ∧ ∀ f : Nat, f < 70 → mi_a h' 63 f = -1 ∧ mi_a h' 64 f = 0
theorem gd27 : ∀ (N : Nat) (zf : Int) (h : sm_H), 70 - zf < N → 0 ≤ zf → zf ≤ 70 → ab_Sh sx_sk h → ab_Fr gd_W h0 h → (mi_f h 7680 = 0 ∧ mi_f h 7685 = 0 ∧ mi_f h 7686 = 0 ∧ mi_f h 7690 = 0 ∧ mi_f h 7698 = 0) → (∀ f : Nat, (f : Int) < zf → mi_a h 63 f = -1 ∧ mi_a h 64 f = 0) → me_E (d + 1) 15 27 [some (.inr (.inr 60)), some (.inl zf)] [] h (gd_Q h0) := by
  intro N
  induction N with
  | zero => intro zf h hN f0 f1; exfalso; omega
  | succ N ih =>
    intro zf h hN f0 f1 hS hF hz hl
    refine mt_gdB hS ⟨by omega, by omega⟩ ?_ ?_ ?_
    · intro c h1 g1 g2
      have e := me_nil g2
      subst e
      exact ⟨rfl, hS, hF, hz, fun f hf => hl f (by omega)⟩
    · intro c c2; exfalso; omega
    · intro c c2
      refine ⟨⟨⟨by omega, by omega⟩, ⟨by omega, by omega⟩⟩, fun h1 g1 g2 g3 g4 => ?_⟩
      refine ih (zf + 1) h1 (by omega) (by omega) (by omega) g1 (hF.trans (g4.wide (fun c hc => ab_swr_ok (by decide) hc))) ?_ (fun f hf => ?_)
      · rw [me_f (c := 7680) g4 hS rfl rfl, me_f (c := 7685) g4 hS rfl rfl, me_f (c := 7686) g4 hS rfl rfl, me_f (c := 7690) g4 hS rfl rfl, me_f (c := 7698) g4 hS rfl rfl]
        exact hz
      · rw [g2, g3]
        by_cases e : f = zf.toNat
        · rw [if_pos e, if_pos e]
          exact ⟨rfl, rfl⟩
        · rw [if_neg e, if_neg e]
          exact hl f (by omega)
theorem me_gdrop (hS : ab_Sh sx_sk h) : me_E (d + 1) 15 0 [some (.inr (.inr 60)), none] [] h (gd_Q h) := by
  refine mt_gdA hS (fun h1 g1 g2 g3 g4 g5 g6 g7 => ?_)
  exact gd27 72 0 h1 (by decide) (by decide) (by decide) g1 (g7.wide (fun c hc => ab_swr_ok (by decide) hc)) ⟨g2, g3, g4, g5, g6⟩ (fun f hf => by omega)
/-- the first place of a row that holds zl -/
def fi_Q (h : sm_H) (n : Int) (k : Nat) (zl : Int) (w : Option mi_V) (h' : sm_H) : Prop := h' = h ∧ ∃ z, w = some (.inl z) ∧ ((0 ≤ z ∧ z < n ∧ mi_a h k z.toNat = zl ∧ ∀ j : Nat, (j : Int) < z → mi_a h k j ≠ zl) ∨ (z = -1 ∧ ∀ j : Nat, (j : Int) < n → mi_a h k j ≠ zl))
theorem gr2 {zl : Int} (hS : ab_Sh sx_sk h) (ol : mi_in zl) (n1 : mi_f h 7680 ≤ 10) : ∀ (N : Nat) (zr : Int), 10 - zr < N → 0 ≤ zr → zr ≤ 10 → (∀ j : Nat, (j : Int) < zr → mi_a h 61 j ≠ zl) → me_E (d + 1) 48 2 [some (.inr (.inr 60)), some (.inl zl), some (.inl zr)] [] h (fi_Q h (mi_f h 7680) 61 zl) := by
  intro N
  induction N with
  | zero => intro zr hN r0 r1; exfalso; omega
  | succ N ih =>
    intro zr hN r0 r1 hn
    refine mt_gnB hS ol ⟨by omega, by omega⟩ ?_ ?_ ?_ ?_ ?_ ?_ ?_
    · intro b c h1 g1 g2
      exact ⟨me_nil g2, -1, rfl, Or.inr ⟨rfl, fun j hj => hn j (by omega)⟩⟩
    · intro b c c2; exfalso; omega
    · intro b c c2; exfalso; omega
    · intro b c c2 c3; exfalso; omega
    · intro b c c2 c3; exfalso; omega
    · intro b c c2 c3 c4
      refine ⟨⟨⟨by omega, by omega⟩, ⟨by omega, by omega⟩⟩, fun h1 g1 g2 => ?_⟩
      have e := me_nil g2
      subst e
      refine ih (zr + 1) (by omega) (by omega) (by omega) (fun j hj => ?_)
      by_cases e : (j : Int) = zr
      · rw [show j = zr.toNat by omega]
        exact c4
      · exact hn j (by omega)
    · intro b c c2 c3 c4
      exact ⟨⟨by omega, by omega⟩, fun h1 g1 g2 => ⟨me_nil g2, zr, rfl, Or.inl ⟨c2, c, c4, hn⟩⟩⟩
theorem me_gruleNamed {zl : Int} (hS : ab_Sh sx_sk h) (ol : mi_in zl) (n1 : mi_f h 7680 ≤ 10) : me_E (d + 1) 48 0 [some (.inr (.inr 60)), some (.inl zl), none] [] h (fi_Q h (mi_f h 7680) 61 zl) := by
  refine mt_gnA hS ol (fun h1 g1 g2 => ?_)
  have e := me_nil g2
  subst e
  exact gr2 hS ol n1 12 0 (by decide) (by decide) (by decide) (fun j hj => by omega)
theorem gl2 {zl : Int} (hS : ab_Sh sx_sk h) (ol : mi_in zl) (n1 : mi_f h 7698 ≤ 20) : ∀ (N : Nat) (zr : Int), 20 - zr < N → 0 ≤ zr → zr ≤ 20 → (∀ j : Nat, (j : Int) < zr → mi_a h 75 j ≠ zl) → me_E (d + 1) 58 2 [some (.inr (.inr 60)), some (.inl zl), some (.inl zr)] [] h (fi_Q h (mi_f h 7698) 75 zl) := by
  intro N
  induction N with
  | zero => intro zr hN r0 r1; exfalso; omega
  | succ N ih =>
    intro zr hN r0 r1 hn
    refine mt_glB hS ol ⟨by omega, by omega⟩ ?_ ?_ ?_ ?_ ?_ ?_ ?_
    · intro b c h1 g1 g2
      exact ⟨me_nil g2, -1, rfl, Or.inr ⟨rfl, fun j hj => hn j (by omega)⟩⟩
    · intro b c c2; exfalso; omega
    · intro b c c2; exfalso; omega
    · intro b c c2 c3; exfalso; omega
    · intro b c c2 c3; exfalso; omega
    · intro b c c2 c3 c4
      refine ⟨⟨⟨by omega, by omega⟩, ⟨by omega, by omega⟩⟩, fun h1 g1 g2 => ?_⟩
      have e := me_nil g2
      subst e
      refine ih (zr + 1) (by omega) (by omega) (by omega) (fun j hj => ?_)
      by_cases e : (j : Int) = zr
      · rw [show j = zr.toNat by omega]
        exact c4
      · exact hn j (by omega)
    · intro b c c2 c3 c4
      exact ⟨⟨by omega, by omega⟩, fun h1 g1 g2 => ⟨me_nil g2, zr, rfl, Or.inl ⟨c2, c, c4, hn⟩⟩⟩
theorem me_gliteral {zl : Int} (hS : ab_Sh sx_sk h) (ol : mi_in zl) (n1 : mi_f h 7698 ≤ 20) : me_E (d + 1) 58 0 [some (.inr (.inr 60)), some (.inl zl), none] [] h (fi_Q h (mi_f h 7698) 75 zl) := by
  refine mt_glA hS ol (fun h1 g1 g2 => ?_)
  have e := me_nil g2
  subst e
  exact gl2 hS ol n1 22 0 (by decide) (by decide) (by decide) (fun j hj => by omega)
theorem me_gaddRule {zl zp : Int} (hS : ab_Sh sx_sk h) (ol : mi_in zl) (op : mi_in zp) (n0 : 0 ≤ mi_f h 7680) (n1 : mi_f h 7680 < 10) : me_E (d + 1) 50 0 [some (.inr (.inr 60)), some (.inl zl), some (.inl zp)] [] h (fun w h' => w = some (.inl (mi_f h 7680)) ∧ ab_Sh sx_sk h' ∧ ab_Fr [(7680, 7681), (7808, 7809), (7936, 7937)] h h' ∧ mi_f h' 7680 = mi_f h 7680 + 1 ∧ (∀ i, mi_a h' 61 i = if i = (mi_f h 7680).toNat then zl else mi_a h 61 i) ∧ ∀ i, mi_a h' 62 i = if i = (mi_f h 7680).toNat then zp else mi_a h 62 i) := by
  refine mt_gar hS ol op ?_ ?_ ?_
  · intro b c; exfalso; omega
  · intro b c c2; exfalso; omega
  · intro b c c2
    exact ⟨⟨⟨by omega, by omega⟩, ⟨by omega, by omega⟩, ⟨by omega, by omega⟩⟩, fun h1 g1 g2 g3 g4 g5 => ⟨by rw [Int.add_sub_cancel], g1, g5, g2, g3, g4⟩⟩
theorem me_gaddGroup (hS : ab_Sh sx_sk h) (n0 : 0 ≤ mi_f h 7685) (n1 : mi_f h 7685 ≤ 60) : me_E (d + 1) 62 0 [some (.inr (.inr 60))] [] h (fun w h' => w = some (.inl (10 + mi_f h 7685)) ∧ ab_Sh sx_sk h' ∧ ab_Fr [(7685, 7686)] h h' ∧ mi_f h' 7685 = mi_f h 7685 + 1) := by
  refine mt_gag hS (fun b => ⟨⟨⟨by omega, by omega⟩, ⟨by omega, by omega⟩, ⟨by omega, by omega⟩⟩, fun h1 g1 g2 g3 => ⟨?_, g1, g3, g2⟩⟩)
  rw [show 10 + (mi_f h 7685 + 1) - 1 = 10 + mi_f h 7685 by omega]
theorem me_gaddLiteral {zl : Int} (hS : ab_Sh sx_sk h) (ol : mi_in zl) (n0 : 0 ≤ mi_f h 7698) (n1 : mi_f h 7698 ≤ 20) (hk : (∀ j : Nat, (j : Int) < mi_f h 7698 → mi_a h 75 j ≠ zl) → mi_f h 7698 < 20) : me_E (d + 2) 61 0 [some (.inr (.inr 60)), some (.inl zl), none] [] h (fun w h' => ab_Sh sx_sk h' ∧ ab_Fr [(7698, 7699), (9600, 9601)] h h' ∧ ∃ z, w = some (.inl z) ∧ ((0 ≤ z ∧ z < mi_f h 7698 ∧ mi_a h 75 z.toNat = zl ∧ (∀ j : Nat, (j : Int) < z → mi_a h 75 j ≠ zl) ∧ h' = h) ∨ (z = mi_f h 7698 ∧ (∀ j : Nat, (j : Int) < mi_f h 7698 → mi_a h 75 j ≠ zl) ∧ mi_f h' 7698 = mi_f h 7698 + 1 ∧ ∀ i, mi_a h' 75 i = if i = (mi_f h 7698).toNat then zl else mi_a h 75 i))) := by
  refine mt_galA hS ol (fun h1 g1 g2 => ?_)
  have e := me_nil g2
  subst e
  refine ⟨_, me_gliteral (d := d) hS ol n1, fun w h2 ow hq => ?_⟩
  obtain ⟨rfl, z, rfl, hz⟩ := hq
  refine mt_galB (zz := z) hS ol ⟨by omega, by omega⟩ ?_ ?_ ?_ ?_
  · intro b c c2; exfalso; omega
  · intro b c c2 c3
    exfalso
    rcases hz with x | x
    · omega
    · have := hk x.2
      omega
  · intro b c c2 c3
    have hn : ∀ j : Nat, (j : Int) < mi_f h2 7698 → mi_a h2 75 j ≠ zl := by
      rcases hz with x | x
      · omega
      · exact x.2
    refine ⟨⟨⟨by omega, by omega⟩, ⟨by omega, by omega⟩, ⟨by omega, by omega⟩⟩, fun h3 r1 r2 r3 r4 => ⟨r1, r4, mi_f h2 7698, by rw [Int.add_sub_cancel], Or.inr ⟨rfl, hn, r2, r3⟩⟩⟩
  · intro c h3 r1 r2
    have e := me_nil r2
    subst e
    refine ⟨hS, ab_Fr.refl, z, rfl, Or.inl ?_⟩
    rcases hz with x | x
    · exact ⟨x.1, x.2.1, x.2.2.1, x.2.2.2, rfl⟩
    · omega
def ga_W : List (Nat × Nat) := [(7686, 7687), (8064, 8065), (8192, 8193), (8320, 8321), (8448, 8449), (8576, 8577)]
def ga_R (h h' : sm_H) (zf zb zp : Int) : Prop :=
  mi_f h' 7686 = mi_f h 7686 + 1 ∧
  (∀ i, mi_a h' 63 i = if zb = -1 ∧ i = zf.toNat then mi_f h 7686 else mi_a h 63 i) ∧
  (∀ i, mi_a h' 64 i = if i = zf.toNat then mi_a h 64 i + 1 else mi_a h 64 i) ∧
  (∀ i, mi_a h' 65 i = if i = (mi_f h 7686).toNat then -1 else mi_a h 65 i) ∧
  (∀ i, mi_a h' 66 i = if zb ≠ -1 ∧ i = zb.toNat then mi_f h 7686 else if i = (mi_f h 7686).toNat then -1 else mi_a h 66 i) ∧
  (∀ i, mi_a h' 67 i = if i = (mi_f h 7686).toNat then zp else mi_a h 67 i)
theorem me_gaddAlternative {zf zb zp : Int} (hS : ab_Sh sx_sk h) (op : mi_in zp) (n0 : 0 ≤ mi_f h 7686) (n1 : mi_f h 7686 < 66) (f0 : 0 ≤ zf) (f1 : zf < 70) (b0 : -1 ≤ zb) (b1 : zb < 66) (s0 : 0 ≤ mi_a h 64 zf.toNat) (s1 : mi_a h 64 zf.toNat ≤ 100) : me_E (d + 1) 53 0 [some (.inr (.inr 60)), some (.inl zf), some (.inl zb), some (.inl zp), none] [] h (fun w h' => w = some (.inl (mi_f h 7686)) ∧ ab_Sh sx_sk h' ∧ ab_Fr ga_W h h' ∧ ga_R h h' zf zb zp) := by
  have of : mi_in zf := ⟨by omega, by omega⟩
  have ob : mi_in zb := ⟨by omega, by omega⟩
  have oa : mi_in (mi_f h 7686) := ⟨by omega, by omega⟩
  refine mt_gaaA hS of ob op ?_ ?_ ?_
  · intro b c; exfalso; omega
  · intro b c c2; exfalso; omega
  intro b c c2
  refine ⟨⟨⟨by omega, by omega⟩, ⟨by omega, by omega⟩⟩, fun h1 g1 g2 g3 g4 g5 g6 => ?_⟩
  have e64 : ∀ i, mi_a h1 64 i = mi_a h 64 i := fun i => me_a (k := 64) g6 hS rfl rfl
  have e63 : ∀ i, mi_a h1 63 i = mi_a h 63 i := fun i => me_a (k := 63) g6 hS rfl rfl
  refine mt_gaaB g1 of ob op oa ?_ ?_ ?_
  · intro c3; exfalso; omega
  · intro c3 c4; exfalso; omega
  intro c3 c4
  refine ⟨⟨⟨by omega, by omega⟩, by rw [e64]; omega⟩, fun h2 r1 r2 r3 => ?_⟩
  have F2 : ab_Fr ga_W h h2 := (g6.wide (fun c hc => ab_swr_ok (by decide) hc)).trans (r3.wide (fun c hc => ab_swr_ok (by decide) hc))
  have q64 : ∀ i, mi_a h2 64 i = if i = zf.toNat then mi_a h 64 i + 1 else mi_a h 64 i := fun i => by
    rw [r2, e64, e64]
    by_cases e : i = zf.toNat
    · rw [if_pos e, if_pos e, e]
    · rw [if_neg e, if_neg e]
  refine mt_gaaC r1 of ob op oa ?_ ?_ ?_ ?_ ?_ ?_
  · intro c5 c6; exfalso; omega
  · intro c5 c6 c7; exfalso; omega
  · intro c5 c6 c7
    refine ⟨⟨by omega, by omega⟩, fun h3 u1 u2 u3 => ⟨rfl, u1, F2.trans (u3.wide (fun c hc => ab_swr_ok (by decide) hc)), ?_, fun i => ?_, fun i => ?_, fun i => ?_, fun i => ?_, fun i => ?_⟩⟩
    · rw [me_f (c := 7686) u3 r1 rfl rfl, me_f (c := 7686) r3 g1 rfl rfl, g2]
    · rw [me_a (k := 63) u3 r1 rfl rfl, me_a (k := 63) r3 g1 rfl rfl, e63, if_neg (fun x => c5 x.1)]
    · rw [me_a (k := 64) u3 r1 rfl rfl, q64]
    · rw [me_a (k := 65) u3 r1 rfl rfl, me_a (k := 65) r3 g1 rfl rfl, g3]
    · rw [u2, me_a (k := 66) r3 g1 rfl rfl, g4]
      by_cases e : i = zb.toNat
      · rw [if_pos e, if_pos ⟨c5, e⟩]
      · rw [if_neg e, if_neg (c := zb ≠ -1 ∧ i = zb.toNat) (fun x => e x.2)]
    · rw [me_a (k := 67) u3 r1 rfl rfl, me_a (k := 67) r3 g1 rfl rfl, g5]
  · intro c5 c6; exfalso; omega
  · intro c5 c6 c7; exfalso; omega
  · intro c5 c6 c7
    refine ⟨⟨by omega, by omega⟩, fun h3 u1 u2 u3 => ⟨rfl, u1, F2.trans (u3.wide (fun c hc => ab_swr_ok (by decide) hc)), ?_, fun i => ?_, fun i => ?_, fun i => ?_, fun i => ?_, fun i => ?_⟩⟩
    · rw [me_f (c := 7686) u3 r1 rfl rfl, me_f (c := 7686) r3 g1 rfl rfl, g2]
    · rw [u2, me_a (k := 63) r3 g1 rfl rfl, e63]
      by_cases e : i = zf.toNat
      · rw [if_pos e, if_pos ⟨c5, e⟩]
      · rw [if_neg e, if_neg (c := zb = -1 ∧ i = zf.toNat) (fun x => e x.2)]
    · rw [me_a (k := 64) u3 r1 rfl rfl, q64]
    · rw [me_a (k := 65) u3 r1 rfl rfl, me_a (k := 65) r3 g1 rfl rfl, g3]
    · rw [me_a (k := 66) u3 r1 rfl rfl, me_a (k := 66) r3 g1 rfl rfl, g4, if_neg (c := zb ≠ -1 ∧ i = zb.toNat) (fun x => x.1 c5)]
    · rw [me_a (k := 67) u3 r1 rfl rfl, me_a (k := 67) r3 g1 rfl rfl, g5]
def gp_W : List (Nat × Nat) := [(7690, 7691), (8704, 8705), (8832, 8833), (8960, 8961), (9088, 9089), (9216, 9217), (9344, 9345), (9472, 9473)]
def gp_R (h h' : sm_H) (zs zv zp : Int) : Prop :=
  mi_f h' 7690 = mi_f h 7690 + 1 ∧
  (∀ i, mi_a h' 68 i = if i = (mi_f h 7690).toNat then zs else mi_a h 68 i) ∧
  (∀ i, mi_a h' 69 i = if i = (mi_f h 7690).toNat then zv else mi_a h 69 i) ∧
  (∀ i, mi_a h' 70 i = if i = (mi_f h 7690).toNat then zp else mi_a h 70 i) ∧
  (∀ i, mi_a h' 71 i = if i = (mi_f h 7690).toNat then -1 else mi_a h 71 i) ∧
  (∀ i, mi_a h' 72 i = if i = (mi_f h 7690).toNat then 0 else mi_a h 72 i) ∧
  (∀ i, mi_a h' 73 i = if i = (mi_f h 7690).toNat then zp else mi_a h 73 i) ∧
  (∀ i, mi_a h' 74 i = if i = (mi_f h 7690).toNat then 0 else mi_a h 74 i)
theorem me_gaddPart {zs zv zp : Int} (hS : ab_Sh sx_sk h) (os : mi_in zs) (ov : mi_in zv) (op : mi_in zp) (n0 : 0 ≤ mi_f h 7690) (n1 : mi_f h 7690 < 60) : me_E (d + 1) 60 0 [some (.inr (.inr 60)), some (.inl zs), some (.inl zv), some (.inl zp), none] [] h (fun w h' => w = some (.inl (mi_f h 7690)) ∧ ab_Sh sx_sk h' ∧ ab_Fr gp_W h h' ∧ gp_R h h' zs zv zp) := by
  refine mt_gap hS os ov op ?_ ?_ ?_
  · intro b c; exfalso; omega
  · intro b c c2; exfalso; omega
  · intro b c c2
    exact ⟨⟨⟨by omega, by omega⟩, ⟨by omega, by omega⟩⟩, fun h1 g1 g2 g3 g4 g5 g6 g7 g8 g9 g10 => ⟨rfl, g1, g10, g2, g3, g4, g5, g6, g7, g8, g9⟩⟩
theorem me_gattach {za zb zp : Int} (hS : ab_Sh sx_sk h) (op : mi_in zp) (a0 : 0 ≤ za) (a1 : za < 66) (b0 : -1 ≤ zb) (b1 : zb < 60) : me_E (d + 1) 63 0 [some (.inr (.inr 60)), some (.inl za), some (.inl zb), some (.inl zp)] [] h (fun w h' => w = none ∧ ab_Sh sx_sk h' ∧ ab_Fr [(8320, 8321), (9088, 9089)] h h' ∧ (∀ i, mi_a h' 65 i = if zb = -1 ∧ i = za.toNat then zp else mi_a h 65 i) ∧ ∀ i, mi_a h' 71 i = if zb ≠ -1 ∧ i = zb.toNat then zp else mi_a h 71 i) := by
  refine mt_gat hS ⟨by omega, by omega⟩ ⟨by omega, by omega⟩ op ?_ ?_ ?_ ?_ ?_ ?_
  · intro c c2; exfalso; omega
  · intro c c2 c3; exfalso; omega
  · intro c c2 c3
    refine ⟨⟨by omega, by omega⟩, fun h1 g1 g2 g3 => ⟨rfl, g1, g3.wide (fun c hc => ab_swr_ok (by decide) hc), fun i => ?_, fun i => ?_⟩⟩
    · rw [me_a (k := 65) g3 hS rfl rfl, if_neg (fun x => c x.1)]
    · rw [g2]
      by_cases e : i = zb.toNat
      · rw [if_pos e, if_pos ⟨c, e⟩]
      · rw [if_neg e, if_neg (fun x => e x.2)]
  · intro c c2; exfalso; omega
  · intro c c2 c3; exfalso; omega
  · intro c c2 c3
    refine ⟨⟨by omega, by omega⟩, fun h1 g1 g2 g3 => ⟨rfl, g1, g3.wide (fun c hc => ab_swr_ok (by decide) hc), fun i => ?_, fun i => ?_⟩⟩
    · rw [g2]
      by_cases e : i = za.toNat
      · rw [if_pos e, if_pos ⟨c, e⟩]
      · rw [if_neg e, if_neg (fun x => e x.2)]
    · rw [me_a (k := 71) g3 hS rfl rfl, if_neg (fun x => x.1 c)]
/-- the form in a part -/
def gf_v (h : sm_H) (p : Int) : Int := if mi_a h 68 p.toNat = 9 ∨ mi_a h 68 p.toNat = 10 then mi_a h 69 p.toNat else -1
theorem me_gformIn {zp : Int} (hS : ab_Sh sx_sk h) (p0 : 0 ≤ zp) (p1 : zp < 60) : me_E (d + 1) 71 0 [some (.inr (.inr 60)), some (.inl zp), none] [] h (fun w h' => h' = h ∧ w = some (.inl (gf_v h zp))) := by
  refine mt_gfi hS ⟨by omega, by omega⟩ ?_ ?_ ?_ ?_ ?_
  · intro c; exfalso; omega
  · intro c c2; exfalso; omega
  · intro c c2 c3
    exact ⟨⟨by omega, by omega⟩, fun h1 g1 g2 => ⟨me_nil g2, by unfold gf_v; rw [if_pos (Or.inl c3)]⟩⟩
  · intro c c2 c3 c4
    exact ⟨⟨by omega, by omega⟩, fun h1 g1 g2 => ⟨me_nil g2, by unfold gf_v; rw [if_neg (fun x => x.elim c3 c4)]⟩⟩
  · intro c c2 c3 c4
    exact ⟨⟨by omega, by omega⟩, fun h1 g1 g2 => ⟨me_nil g2, by unfold gf_v; rw [if_pos (Or.inr c4)]⟩⟩
end CGR
/-! READING, purely: a turn of form; two posts of one run -/
theorem mi_c_inj {x y : mi_V} (hx : mi_ok x) (hy : mi_ok y) (e : mi_c x = mi_c y) : x = y := by
  rcases x with a | a | a <;> rcases y with b | b | b
  · have e2 : Value.int (Int32.ofInt a) = Value.int (Int32.ofInt b) := e
    injection e2 with e3
    have := congrArg Int32.toInt e3
    rw [mi_ti hx, mi_ti hy] at this
    rw [this]
  · exact Value.noConfusion e
  · exact Value.noConfusion e
  · exact Value.noConfusion e
  · have e2 : Value.long a = Value.long b := e
    injection e2 with e3
    rw [e3]
  · exact Value.noConfusion e
  · exact Value.noConfusion e
  · exact Value.noConfusion e
  · have e2 : Value.ref a = Value.ref b := e
    injection e2 with e3
    rw [e3]
theorem me_E.and {d m pc : Nat} {ls : mi_L} {st : List mi_V} {h : sm_H} {Q Q' : Option mi_V → sm_H → Prop} (k : me_E d m pc ls st h Q) (k' : me_E d m pc ls st h Q') : me_E d m pc ls st h (fun w h' => Q w h' ∧ Q' w h') := by
  obtain ⟨n, v, h1, r, w, e1, e2, e3⟩ := k
  obtain ⟨n', v', h1', r', w', e1', e2', e3'⟩ := k'
  have := sm_run_same r r'
  injection this with ev eh
  subst eh
  refine ⟨n, v, h1, r, w, e1, e2, e3, ?_⟩
  have : w = w' := by
    rw [e1, e1'] at ev
    cases w with
    | none => cases w' with
      | none => rfl
      | some y => cases ev
    | some x => cases w' with
      | none => cases ev
      | some y =>
        have ev2 : some (mi_c x) = some (mi_c y) := ev
        injection ev2 with ev3
        rw [mi_c_inj (e2 x rfl) (e2' y rfl) ev3]
  rw [this]
  exact e3'
/-! THE WALK THAT GROWS, purely and exactly: entries as in wk_E; x the chance, fu the fuel, T the nodes in their order (kind, value, level), dp how many are open, ps the pairs that are open (begin, middle; the last one first) -/
abbrev gm_S : Type := Int64 × Int × List (Int × Int × Int) × Int × List (Nat × Nat)
def gm_X (s : gm_S) : Int64 := s.1
def gm_F (s : gm_S) : Int := s.2.1
def gm_T (s : gm_S) : List (Int × Int × Int) := s.2.2.1
def gm_D (s : gm_S) : Int := s.2.2.2.1
def gm_P (s : gm_S) : List (Nat × Nat) := s.2.2.2.2
section GM0
variable (x : Int64) (f d : Int) (T : List (Int × Int × Int)) (P : List (Nat × Nat))
theorem gm_X_mk : gm_X (x, f, T, d, P) = x := rfl
theorem gm_F_mk : gm_F (x, f, T, d, P) = f := rfl
theorem gm_T_mk : gm_T (x, f, T, d, P) = T := rfl
theorem gm_D_mk : gm_D (x, f, T, d, P) = d := rfl
theorem gm_P_mk : gm_P (x, f, T, d, P) = P := rfl
end GM0
abbrev gm_C : Type := List wk_E × gm_S
def gm_x (x : Int64) : Int64 := x * (Int64.ofNat 6364136223846793005) + (Int64.ofNat 1442695040888963407)
/-- what is drawn below n, where x is the chance after the draw -/
def gm_v (x : Int64) (n : Int) : Int := (((x.toUInt64 >>> ((Int32.ofInt (33 : Int)).toInt64.toUInt64 &&& Int64.toUInt64 63)).toInt64) - ((x.toUInt64 >>> ((Int32.ofInt (33 : Int)).toInt64.toUInt64 &&& Int64.toUInt64 63)).toInt64) / ((Int32.ofInt n).toInt64) * ((Int32.ofInt n).toInt64)).toInt32.toInt
/-- the letters of a name: how many more, the place, the chance, those so far -/
def gm_ls : Nat → Nat → Int64 → Int → Int × Int64
  | 0, _, x, v => (v, x)
  | m + 1, k, x, v => gm_ls m (k + 1) (gm_x x) (v + (1 + gm_v (gm_x x) 3) * 32 ^ k)
/-- z behind it as long as it is a keyword -/
def gm_zs (kw : Int → Bool) : Nat → Nat → Int → Int
  | 0, _, v => v
  | m + 1, k, v => if kw v then gm_zs kw m (k + 1) (v + 26 * 32 ^ k) else v
def gm_nm (kw : Int → Bool) (x : Int64) : Int × Int64 :=
  let n := (1 + gm_v (gm_x x) 3).toNat
  let p := gm_ls n 0 (gm_x x) 0
  (gm_zs kw 7 n p.1, p.2)
/-- a node comes -/
def gm_c (k v : Int) (s : gm_S) : Option gm_S := if 100 ≤ (gm_T s).length then none else some (gm_X s, gm_F s, gm_T s ++ [(k + 10 * ((gm_T s).length : Int), v, gm_D s)], gm_D s, gm_P s)
def gm_d (s : gm_S) : gm_S := (gm_X s, gm_F s, gm_T s, gm_D s + 1, gm_P s)
def gm_en (g : wk_g) (i : Int) (r : List wk_E) (s : gm_S) : Option gm_C :=
  if 12 ≤ wk_ul r then none else (gm_c 1 i (gm_X s, gm_F s - 1, gm_T s, gm_D s, gm_P s)).map (fun t => ((1, g 114 i.toNat, 0) :: (2, 1, 0) :: r, gm_d t))
def gm_sg (g : wk_g) (kw : Int → Bool) (u : Int) (r : List wk_E) (s : gm_S) : Option gm_C :=
  if g 119 u.toNat = 9 then gm_en g (g 115 (g 120 u.toNat).toNat) r s
  else if g 119 u.toNat = 10 then some ((1, g 120 u.toNat, 0) :: r, s)
  else if g 119 u.toNat = 1 then (gm_c 2 (gm_v (gm_x (gm_X s)) 10000) (gm_x (gm_X s), gm_F s, gm_T s, gm_D s, gm_P s)).map (fun t => (r, t))
  else if g 119 u.toNat = 2 then (gm_c 3 (gm_nm kw (gm_X s)).1 ((gm_nm kw (gm_X s)).2, gm_F s, gm_T s, gm_D s, gm_P s)).map (fun t => (r, t))
  else some (r, s)
/-- the alternative of least height -/
def gm_lo (g : wk_g) : Nat → Int → Int → Int → Int → Int
  | 0, _, _, b, _ => b
  | m + 1, a, n, b, hi => gm_lo g m (g 128 a.toNat) (n + 1) (if g 143 a.toNat < hi then n else b) (if g 143 a.toNat < hi then g 143 a.toNat else hi)
/-- drawn below n, but 0 without fuel -/
def gm_n (n : Int) (s : gm_S) : Int := if gm_F s < 0 then 0 else gm_v (gm_x (gm_X s)) n
def gm_w (g : wk_g) (f : Int) (s : gm_S) : Int := if gm_F s < 0 then gm_lo g (g 130 f.toNat).toNat (g 129 f.toNat) 0 0 1001 else gm_v (gm_x (gm_X s)) (g 130 f.toNat)
def gm_y (s : gm_S) : gm_S := (if gm_F s < 0 then gm_X s else gm_x (gm_X s), gm_F s, gm_T s, gm_D s, gm_P s)
def gm_op (o : Int) (s : gm_S) : gm_S := if o = 1 then (gm_X s, gm_F s, gm_T s, gm_D s, ((gm_T s).length, 0) :: gm_P s) else s
def gm_mid (s : gm_S) : gm_S := (gm_X s, gm_F s, gm_T s, gm_D s, match gm_P s with | [] => [] | p :: q => (p.1, (gm_T s).length) :: q)
/-- the nodes from b on come ahead of those from a on -/
def gm_rot (a b : Nat) (T : List (Int × Int × Int)) : List (Int × Int × Int) := if a ≤ b ∧ b ≤ T.length then T.take a ++ T.drop b ++ (T.take b).drop a else T
def gm_tu (s : gm_S) : gm_S := match gm_P s with | [] => s | p :: q => (gm_X s, gm_F s, gm_rot p.1 p.2 (gm_T s), gm_D s, q)
def gm_st (g : wk_g) (kw : Int → Bool) (e : wk_E) (r : List wk_E) (s : gm_S) : Option gm_C :=
  if e.1 = 0 then
    (if g 122 e.2.1.toNat = 1 then (gm_c 5 (gm_n 3 s) (gm_y (gm_op e.2.2 s))).map (fun t => ((5, e.2.1, gm_n 3 s) :: (2, 0, 0) :: r, gm_d t))
     else if g 122 e.2.1.toNat = 2 then (gm_c 6 (gm_n 2 s) (gm_y (gm_op e.2.2 s))).bind (fun t => if 0 < gm_n 2 s then gm_sg g kw e.2.1 ((2, 0, 0) :: r) (gm_d t) else some ((2, 0, 0) :: r, gm_d t))
     else gm_sg g kw e.2.1 r (gm_op e.2.2 s))
  else if e.1 = 1 then
    (if 1 < g 130 e.2.1.toNat then (gm_c 4 (gm_w g e.2.1 s) (gm_y s)).map (fun t => (wk_it g 61 (g 126 (wk_alt g (gm_w g e.2.1 s).toNat (g 129 e.2.1.toNat)).toNat) ++ (2, 0, 0) :: r, gm_d t))
     else some (wk_it g 61 (g 126 (g 129 e.2.1.toNat).toNat) ++ r, s))
  else if e.1 = 5 then (if 0 < e.2.2 then gm_sg g kw e.2.1 ((5, e.2.1, e.2.2 - 1) :: r) s else some (r, s))
  else if e.1 = 2 then some (r, (gm_X s, gm_F s, gm_T s, gm_D s - 1, gm_P s))
  else if e.1 = 3 then some (r, gm_mid s)
  else some (r, gm_tu s)
/-- n turns lead from c to d; n turns are well, and the next one passes a limit -/
def gm_to (g : wk_g) (kw : Int → Bool) : Nat → gm_C → gm_C → Prop
  | 0, c, d => c = d
  | n + 1, c, d => ∃ e r c1, c.1 = e :: r ∧ gm_st g kw e r c.2 = some c1 ∧ gm_to g kw n c1 d
def gm_no (g : wk_g) (kw : Int → Bool) : Nat → gm_C → Prop
  | 0, c => ∃ e r, c.1 = e :: r ∧ gm_st g kw e r c.2 = none
  | n + 1, c => ∃ e r c1, c.1 = e :: r ∧ gm_st g kw e r c.2 = some c1 ∧ gm_no g kw n c1
section GM1
variable {g : wk_g} {kw : Int → Bool}
theorem gm_app {b d : gm_C} {m : Nat} (h2 : gm_to g kw m b d) : ∀ (n : Nat) (a : gm_C), gm_to g kw n a b → gm_to g kw (n + m) a d := by
  intro n
  induction n with
  | zero => intro a h; have h : a = b := h; rw [h, Nat.zero_add]; exact h2
  | succ n ih =>
    intro a h
    obtain ⟨e, r, c1, h3, h4, h5⟩ := h
    rw [Nat.succ_add]
    exact ⟨e, r, c1, h3, h4, ih c1 h5⟩
theorem gm_appn {b : gm_C} {m : Nat} (h2 : gm_no g kw m b) : ∀ (n : Nat) (a : gm_C), gm_to g kw n a b → gm_no g kw (n + m) a := by
  intro n
  induction n with
  | zero => intro a h; have h : a = b := h; rw [h, Nat.zero_add]; exact h2
  | succ n ih =>
    intro a h
    obtain ⟨e, r, c1, h3, h4, h5⟩ := h
    rw [Nat.succ_add]
    exact ⟨e, r, c1, h3, h4, ih c1 h5⟩
theorem gm_one {e : wk_E} {r : List wk_E} {s : gm_S} {c : gm_C} (h : gm_st g kw e r s = some c) : gm_to g kw 1 (e :: r, s) c := ⟨e, r, c, rfl, h, rfl⟩
theorem gm_none {e : wk_E} {r : List wk_E} {s : gm_S} (h : gm_st g kw e r s = none) : gm_no g kw 0 (e :: r, s) := ⟨e, r, rfl, h⟩
/-- there is one way only -/
theorem gm_det {b d : gm_C} : ∀ (n m : Nat) (a : gm_C), gm_to g kw n a b → gm_to g kw m a d → n ≤ m → gm_to g kw (m - n) b d := by
  intro n
  induction n with
  | zero => intro m a h1 h2 _; have h1 : a = b := h1; rw [← h1]; exact h2
  | succ n ih =>
    intro m a h1 h2 h3
    obtain ⟨e, r, c1, k1, k2, k3⟩ := h1
    cases m with
    | zero => exact absurd h3 (by omega)
    | succ m =>
      obtain ⟨e', r', c1', l1, l2, l3⟩ := h2
      rw [k1] at l1
      injection l1 with l4 l5
      rw [← l4, ← l5, k2] at l2
      injection l2 with l6
      rw [← l6] at l3
      have := ih m c1 k3 l3 (by omega)
      rwa [show m + 1 - (n + 1) = m - n from by omega]
theorem gm_detn {b : gm_C} : ∀ (n m : Nat) (a : gm_C), gm_to g kw n a b → gm_no g kw m a → n ≤ m ∧ gm_no g kw (m - n) b := by
  intro n
  induction n with
  | zero => intro m a h1 h2; have h1 : a = b := h1; rw [← h1]; exact ⟨Nat.zero_le _, h2⟩
  | succ n ih =>
    intro m a h1 h2
    obtain ⟨e, r, c1, k1, k2, k3⟩ := h1
    cases m with
    | zero =>
      obtain ⟨e', r', l1, l2⟩ := h2
      rw [k1] at l1
      injection l1 with l4 l5
      rw [← l4, ← l5, k2] at l2
      cases l2
    | succ m =>
      obtain ⟨e', r', c1', l1, l2, l3⟩ := h2
      rw [k1] at l1
      injection l1 with l4 l5
      rw [← l4, ← l5, k2] at l2
      injection l2 with l6
      rw [← l6] at l3
      obtain ⟨i1, i2⟩ := ih m c1 k3 l3
      exact ⟨by omega, by rwa [show m + 1 - (n + 1) = m - n from by omega]⟩
end GM1
/-! how many turns a growing walk has: each one is paid by the entries, or by a node -/
def gm_e1 (Y : wk_Y) (e : wk_E) : Int :=
  if e.1 = 0 then 3 * (wk_e Y e.2.1 - e.2.1) - 1
  else if e.1 = 1 then 3 * (wk_x Y e.2.1 - wk_b Y e.2.1) - 2
  else if e.1 = 5 then (if e.2.2 ≤ 0 then 1 else if e.2.2 = 1 then 3 * (wk_e Y e.2.1 - e.2.1) else 6 * (wk_e Y e.2.1 - e.2.1) - 1)
  else 1
def gm_pot (Y : wk_Y) : List wk_E → Int
  | [] => 0
  | e :: r => gm_e1 Y e + gm_pot Y r
def gm_k (Y : wk_Y) (e : wk_E) : Prop := (e.1 = 0 → 0 ≤ e.2.1 ∧ e.2.1 < wk_u Y ∧ wk_e Y e.2.1 - e.2.1 ≤ 60) ∧ (e.1 = 1 → 0 ≤ e.2.1 ∧ e.2.1 < wk_f Y ∧ wk_x Y e.2.1 - wk_b Y e.2.1 ≤ 61) ∧ (e.1 = 5 → 0 ≤ e.2.1 ∧ e.2.1 < wk_u Y ∧ e.2.2 ≤ 2 ∧ wk_e Y e.2.1 - e.2.1 ≤ 60)
def gm_K (Y : wk_Y) : List wk_E → Prop
  | [] => True
  | e :: r => gm_k Y e ∧ gm_K Y r
def gm_vb : Prop := ∀ (x : Int64) (n : Int), 0 < n → n ≤ 10000 → 0 ≤ gm_v x n ∧ gm_v x n < n
section GM2
variable {g : wk_g} {Y : wk_Y} {kw : Int → Bool}
theorem gm_pot_a : ∀ (r q : List wk_E), gm_pot Y (r ++ q) = gm_pot Y r + gm_pot Y q := by
  intro r q
  induction r with
  | nil => show gm_pot Y q = 0 + _; omega
  | cons e r ih => show gm_e1 Y e + gm_pot Y (r ++ q) = gm_e1 Y e + gm_pot Y r + gm_pot Y q; omega
theorem gm_K_a : ∀ (r q : List wk_E), gm_K Y r → gm_K Y q → gm_K Y (r ++ q) := by
  intro r q
  induction r with
  | nil => intro _ h; exact h
  | cons e r ih => intro h1 h2; exact ⟨h1.1, ih h1.2 h2⟩
theorem gm_k_o {a b c : Int} (h0 : a ≠ 0) (h1 : a ≠ 1) (h5 : a ≠ 5) : gm_k Y (a, b, c) := ⟨fun e => absurd e h0, fun e => absurd e h1, fun e => absurd e h5⟩
theorem gm_k_0 {b c : Int} (h0 : 0 ≤ b) (h1 : b < wk_u Y) (h2 : wk_e Y b - b ≤ 60) : gm_k Y (0, b, c) := ⟨fun _ => ⟨h0, h1, h2⟩, fun e => absurd (show (0 : Int) = 1 from e) (by decide), fun e => absurd (show (0 : Int) = 5 from e) (by decide)⟩
theorem gm_k_1 {b c : Int} (h0 : 0 ≤ b) (h1 : b < wk_f Y) (h2 : wk_x Y b - wk_b Y b ≤ 61) : gm_k Y (1, b, c) := ⟨fun e => absurd (show (1 : Int) = 0 from e) (by decide), fun _ => ⟨h0, h1, h2⟩, fun e => absurd (show (1 : Int) = 5 from e) (by decide)⟩
theorem gm_k_5 {b c : Int} (h0 : 0 ≤ b) (h1 : b < wk_u Y) (h2 : c ≤ 2) (h3 : wk_e Y b - b ≤ 60) : gm_k Y (5, b, c) := ⟨fun e => absurd (show (5 : Int) = 0 from e) (by decide), fun e => absurd (show (5 : Int) = 1 from e) (by decide), fun _ => ⟨h0, h1, h2, h3⟩⟩
theorem gm_e_o {a b c : Int} (h0 : a ≠ 0) (h1 : a ≠ 1) (h5 : a ≠ 5) : gm_e1 Y (a, b, c) = 1 := by
  unfold gm_e1
  rw [if_neg h0, if_neg h1, if_neg h5]
theorem gm_e_0 {b c : Int} : gm_e1 Y (0, b, c) = 3 * (wk_e Y b - b) - 1 := rfl
theorem gm_e_1 {b c : Int} : gm_e1 Y (1, b, c) = 3 * (wk_x Y b - wk_b Y b) - 2 := rfl
theorem gm_e_5 {b c : Int} : gm_e1 Y (5, b, c) = if c ≤ 0 then 1 else if c = 1 then 3 * (wk_e Y b - b) else 6 * (wk_e Y b - b) - 1 := rfl
theorem gm_e_pos (hL : wk_L g Y) {e : wk_E} (h : gm_k Y e) : 1 ≤ gm_e1 Y e := by
  obtain ⟨a, b, c⟩ := e
  obtain ⟨h0, h1, h5⟩ := h
  dsimp only at h0 h1 h5
  by_cases c0 : a = 0
  · subst c0
    obtain ⟨k1, k2, -⟩ := h0 rfl
    have := (hL.2.2.1 b k1 k2).1.1
    rw [gm_e_0]
    omega
  by_cases c1 : a = 1
  · subst c1
    obtain ⟨k1, k2, -⟩ := h1 rfl
    have := (hL.2.2.2 b k1 k2).2.2.2.2.1
    rw [gm_e_1]
    omega
  by_cases c5 : a = 5
  · subst c5
    obtain ⟨k1, k2, k3, -⟩ := h5 rfl
    have := (hL.2.2.1 b k1 k2).1.1
    rw [gm_e_5]
    split
    · omega
    · split <;> omega
  · rw [gm_e_o c0 c1 c5]
    omega
theorem gm_pot_nn (hL : wk_L g Y) : ∀ r : List wk_E, gm_K Y r → 0 ≤ gm_pot Y r := by
  intro r
  induction r with
  | nil => intro _; exact Int.le_refl _
  | cons e r ih =>
    intro h
    have := gm_e_pos hL h.1
    have := ih h.2
    show 0 ≤ gm_e1 Y e + gm_pot Y r
    omega
theorem gm_it (hL : wk_L g Y) {f : Int} (h61 : wk_x Y f - wk_b Y f ≤ 61) : ∀ (n : Nat) (u : Int), (u < 0 ∨ (u < wk_u Y ∧ wk_c Y u = f)) → gm_K Y (wk_it g n u) ∧ (u < 0 → gm_pot Y (wk_it g n u) = 0) ∧ (0 ≤ u → gm_pot Y (wk_it g n u) ≤ 3 * (wk_x Y f - u)) := by
  intro n
  induction n with
  | zero =>
    intro u h
    refine ⟨trivial, fun _ => rfl, fun h0 => ?_⟩
    rcases h with h | ⟨h1, h2⟩
    · omega
    · have k := (hL.2.2.1 u h0 h1).1
      rw [h2] at k
      show (0 : Int) ≤ _
      omega
  | succ n ih =>
    intro u h
    unfold wk_it
    by_cases hu : u < 0
    · rw [if_pos hu]
      exact ⟨trivial, fun _ => rfl, fun h0 => by omega⟩
    · rw [if_neg hu]
      obtain ⟨h1, h2⟩ := h.resolve_left hu
      have hu : 0 ≤ u := by omega
      obtain ⟨⟨k1, k2, k3, k4, k5⟩, km, kn, -, -, -⟩ := hL.2.2.1 u hu h1
      rw [h2] at k2 k3 km kn
      have IH := ih (g 125 u.toNat) (by
        by_cases c : g 125 u.toNat < 0
        · exact Or.inl c
        · have := kn (by omega)
          exact Or.inr ⟨this.1, this.2.1⟩)
      obtain ⟨i1, i2, i3⟩ := IH
      by_cases cm : 0 ≤ g 124 u.toNat
      · rw [if_pos cm]
        obtain ⟨m1, m2, m3, m4⟩ := km cm
        obtain ⟨⟨l1, l2, l3, -⟩, -⟩ := hL.2.2.1 _ cm m1
        rw [m2] at l2 l3
        refine ⟨⟨gm_k_0 hu h1 (by omega), gm_k_o (by decide) (by decide) (by decide), gm_k_0 cm m1 (by omega), gm_k_o (by decide) (by decide) (by decide), i1⟩, fun q => by omega, fun _ => ?_⟩
        show gm_e1 Y (0, u, 1) + (gm_e1 Y (3, 0, 0) + (gm_e1 Y (0, g 124 u.toNat, 0) + (gm_e1 Y (4, 0, 0) + gm_pot Y (wk_it g n (g 125 u.toNat))))) ≤ _
        rw [gm_e_0, gm_e_0, gm_e_o (by decide) (by decide) (by decide), gm_e_o (by decide) (by decide) (by decide)]
        by_cases c : g 125 u.toNat < 0
        · have := i2 c
          omega
        · have := i3 (by omega)
          have := (kn (by omega)).2.2.2 cm
          omega
      · rw [if_neg cm]
        refine ⟨⟨gm_k_0 hu h1 (by omega), i1⟩, fun q => by omega, fun _ => ?_⟩
        show gm_e1 Y (0, u, 0) + gm_pot Y (wk_it g n (g 125 u.toNat)) ≤ _
        rw [gm_e_0]
        by_cases c : g 125 u.toNat < 0
        · have := i2 c
          omega
        · have := i3 (by omega)
          have := (kn (by omega)).2.2.1
          omega
theorem gm_c_len {k v : Int} {s t : gm_S} (h : gm_c k v s = some t) : (gm_T s).length < 100 ∧ (gm_T t).length = (gm_T s).length + 1 := by
  unfold gm_c at h
  by_cases c : 100 ≤ (gm_T s).length
  · rw [if_pos c] at h
    cases h
  · rw [if_neg c] at h
    injection h with h
    subst h
    refine ⟨by omega, ?_⟩
    show (gm_T s ++ [_]).length = _
    rw [List.length_append]
    rfl
def gm_len (s : gm_S) : Int := ((gm_T s).length : Int)
theorem gm_sg_pot (hL : wk_L g Y) {u : Int} (h0 : 0 ≤ u) (h1 : u < wk_u Y) (h60 : wk_e Y u - u ≤ 60) {r : List wk_E} {s : gm_S} {c : gm_C} (hK : gm_K Y r) (h : gm_sg g kw u r s = some c) : gm_K Y c.1 ∧ gm_len s ≤ gm_len c.2 ∧ gm_pot Y c.1 ≤ gm_pot Y r + (3 * (wk_e Y u - u) - 2) + 360 * (gm_len c.2 - gm_len s) := by
  obtain ⟨⟨k1, -⟩, -, -, k9, k10, -⟩ := hL.2.2.1 u h0 h1
  unfold gm_sg at h
  by_cases c9 : g 119 u.toNat = 9
  · rw [if_pos c9] at h
    obtain ⟨-, -, -, -, r1, r2, r3⟩ := k9 c9
    unfold gm_en at h
    by_cases cu : 12 ≤ wk_ul r
    · rw [if_pos cu] at h
      cases h
    · rw [if_neg cu] at h
      obtain ⟨t, t1, t2⟩ := Option.map_eq_some_iff.mp h
      obtain ⟨l1, l2⟩ := gm_c_len t1
      subst t2
      have e1 : gm_len (gm_d t) = gm_len s + 1 := by
        show ((gm_T t).length : Int) = ((gm_T s).length : Int) + 1
        have l2 : (gm_T t).length = (gm_T s).length + 1 := l2
        omega
      refine ⟨⟨gm_k_1 r1 r2 (by first | exact r3 | omega), gm_k_o (by decide) (by decide) (by decide), hK⟩, by show gm_len s ≤ gm_len (gm_d t); omega, ?_⟩
      show gm_e1 Y (1, wk_rf g u, 0) + (gm_e1 Y (2, 1, 0) + gm_pot Y r) ≤ _
      rw [gm_e_1, gm_e_o (by decide) (by decide) (by decide)]
      have e2 : gm_len (((1, g 114 (g 115 (g 120 u.toNat).toNat).toNat, 0) :: (2, 1, 0) :: r, gm_d t) : gm_C).2 = gm_len (gm_d t) := rfl
      rw [e2]
      omega
  rw [if_neg c9] at h
  by_cases c10 : g 119 u.toNat = 10
  · rw [if_pos c10] at h
    injection h with h
    subst h
    obtain ⟨r1, r2, r3, -⟩ := k10 c10
    refine ⟨⟨gm_k_1 r1 r2 (by first | exact r3 | omega), hK⟩, Int.le_refl _, ?_⟩
    show gm_e1 Y (1, g 120 u.toNat, 0) + gm_pot Y r ≤ gm_pot Y r + _ + 360 * (gm_len s - gm_len s)
    rw [gm_e_1]
    omega
  rw [if_neg c10] at h
  have leaf : ∀ (k v : Int) (s1 : gm_S), gm_T s1 = gm_T s → (gm_c k v s1).map (fun t => (r, t)) = some c → gm_K Y c.1 ∧ gm_len s ≤ gm_len c.2 ∧ gm_pot Y c.1 ≤ gm_pot Y r + (3 * (wk_e Y u - u) - 2) + 360 * (gm_len c.2 - gm_len s) := by
    intro k v s1 es h
    obtain ⟨t, t1, t2⟩ := Option.map_eq_some_iff.mp h
    obtain ⟨l1, l2⟩ := gm_c_len t1
    rw [es] at l2
    subst t2
    have e1 : gm_len t = gm_len s + 1 := by
      show ((gm_T t).length : Int) = ((gm_T s).length : Int) + 1
      omega
    refine ⟨hK, by show gm_len s ≤ gm_len t; omega, ?_⟩
    show gm_pot Y r ≤ gm_pot Y r + _ + 360 * (gm_len t - gm_len s)
    omega
  by_cases c1 : g 119 u.toNat = 1
  · rw [if_pos c1] at h
    exact leaf 2 _ (gm_x (gm_X s), gm_F s, gm_T s, gm_D s, gm_P s) (gm_T_mk _ _ _ _ _) h
  rw [if_neg c1] at h
  by_cases c2 : g 119 u.toNat = 2
  · rw [if_pos c2] at h
    exact leaf 3 _ ((gm_nm kw (gm_X s)).2, gm_F s, gm_T s, gm_D s, gm_P s) (gm_T_mk _ _ _ _ _) h
  rw [if_neg c2] at h
  injection h with h
  subst h
  refine ⟨hK, Int.le_refl _, ?_⟩
  show gm_pot Y r ≤ gm_pot Y r + _ + 360 * (gm_len s - gm_len s)
  omega
theorem gm_lo_b : ∀ (m : Nat) (a n b hi : Int), 0 ≤ b → 0 ≤ n → (m = 0 → b < n) → (b < n ∨ b = 0) → 0 ≤ gm_lo g m a n b hi ∧ gm_lo g m a n b hi < n + m := by
  intro m
  induction m with
  | zero => intro a n b hi h1 h2 h3 h4; have := h3 rfl; exact ⟨h1, by show b < n + 0; omega⟩
  | succ m ih =>
    intro a n b hi h1 h2 h3 h4
    have := ih (g 128 a.toNat) (n + 1) (if g 143 a.toNat < hi then n else b) (if g 143 a.toNat < hi then g 143 a.toNat else hi) (by split <;> omega) (by omega) (fun _ => by split <;> omega) (Or.inl (by split <;> omega))
    refine ⟨this.1, ?_⟩
    have t := this.2
    show gm_lo g m _ _ _ _ < _
    omega
theorem gm_w_b (hv : gm_vb) {f : Int} (hf : 1 ≤ g 130 f.toNat) (hf2 : g 130 f.toNat ≤ 10000) (s : gm_S) : 0 ≤ gm_w g f s ∧ gm_w g f s < g 130 f.toNat := by
  unfold gm_w
  split
  · have := gm_lo_b (g := g) (g 130 f.toNat).toNat (g 129 f.toNat) 0 0 1001 (by decide) (by decide) (fun q => by omega) (Or.inr rfl)
    omega
  · exact hv _ _ (by omega) hf2
theorem gm_n_b (hv : gm_vb) (n : Int) (h1 : 0 < n) (h2 : n ≤ 10000) (s : gm_S) : 0 ≤ gm_n n s ∧ gm_n n s < n := by
  unfold gm_n
  split
  · omega
  · exact hv _ _ h1 h2
theorem gm_rot_len (a b : Nat) (T : List (Int × Int × Int)) : (gm_rot a b T).length = T.length := by
  unfold gm_rot
  by_cases c : a ≤ b ∧ b ≤ T.length
  · rw [if_pos c]
    simp only [List.length_append, List.length_take, List.length_drop]
    omega
  · rw [if_neg c]
theorem gm_tu_len (s : gm_S) : gm_len (gm_tu s) = gm_len s := by
  unfold gm_tu gm_len
  split
  · rfl
  · show ((gm_rot _ _ (gm_T s)).length : Int) = _
    rw [gm_rot_len]
theorem gm_op_T (o : Int) (s : gm_S) : gm_T (gm_y (gm_op o s)) = gm_T s ∧ gm_T (gm_op o s) = gm_T s := by
  unfold gm_y gm_op
  split
  · exact ⟨gm_T_mk _ _ _ _ _, gm_T_mk _ _ _ _ _⟩
  · exact ⟨gm_T_mk _ _ _ _ _, rfl⟩
/-- a turn -/
theorem gm_st_pot (hL : wk_L g Y) (hv : gm_vb) (hm : ∀ f, 0 ≤ f → f < wk_f Y → g 130 f.toNat ≤ 10000) {e : wk_E} {r : List wk_E} {s : gm_S} {c : gm_C} (hK : gm_K Y (e :: r)) (h : gm_st g kw e r s = some c) : gm_K Y c.1 ∧ gm_len s ≤ gm_len c.2 ∧ gm_pot Y c.1 + 1 ≤ gm_pot Y (e :: r) + 360 * (gm_len c.2 - gm_len s) := by
  obtain ⟨a, b, z⟩ := e
  obtain ⟨⟨h0, h1, h5⟩, hr⟩ := hK
  dsimp only at h0 h1 h5
  have hp : gm_pot Y ((a, b, z) :: r) = gm_e1 Y (a, b, z) + gm_pot Y r := rfl
  rw [hp]
  unfold gm_st at h
  dsimp only at h
  by_cases c0 : a = 0
  · subst c0
    obtain ⟨k1, k2, k60⟩ := h0 rfl
    rw [if_pos rfl] at h
    obtain ⟨⟨l1, l2, l3, l4, l5⟩, -⟩ := hL.2.2.1 b k1 k2
    have l60 := hL.1
    rw [gm_e_0]
    obtain ⟨T1, T2⟩ := gm_op_T z s
    by_cases w1 : g 122 b.toNat = 1
    · rw [if_pos w1] at h
      obtain ⟨t, t1, t2⟩ := Option.map_eq_some_iff.mp h
      obtain ⟨-, q2⟩ := gm_c_len t1
      rw [T1] at q2
      subst t2
      have nb := gm_n_b hv 3 (by decide) (by decide) s
      have e1 : gm_len (gm_d t) = gm_len s + 1 := by
        show ((gm_T t).length : Int) = ((gm_T s).length : Int) + 1
        omega
      refine ⟨⟨gm_k_5 k1 k2 (by omega) k60, gm_k_o (by decide) (by decide) (by decide), hr⟩, by show gm_len s ≤ gm_len (gm_d t); omega, ?_⟩
      show gm_e1 Y (5, b, gm_n 3 s) + (gm_e1 Y (2, 0, 0) + gm_pot Y r) + 1 ≤ 3 * (wk_e Y b - b) - 1 + gm_pot Y r + 360 * (gm_len (gm_d t) - gm_len s)
      rw [gm_e_o (a := 2) (by decide) (by decide) (by decide), gm_e_5, e1]
      split
      · omega
      · split <;> omega
    rw [if_neg w1] at h
    by_cases w2 : g 122 b.toNat = 2
    · rw [if_pos w2] at h
      obtain ⟨t, t1, t2⟩ := Option.bind_eq_some_iff.mp h
      obtain ⟨-, q2⟩ := gm_c_len t1
      rw [T1] at q2
      have e1 : gm_len (gm_d t) = gm_len s + 1 := by
        show ((gm_T t).length : Int) = ((gm_T s).length : Int) + 1
        omega
      have hr2 : gm_K Y ((2, 0, 0) :: r) := ⟨gm_k_o (by decide) (by decide) (by decide), hr⟩
      have p2 : gm_pot Y ((2, 0, 0) :: r) = 1 + gm_pot Y r := by
        show gm_e1 Y (2, 0, 0) + gm_pot Y r = _
        rw [gm_e_o (by decide) (by decide) (by decide)]
      by_cases w3 : 0 < gm_n 2 s
      · rw [if_pos w3] at t2
        obtain ⟨s1, s2, s3⟩ := gm_sg_pot hL k1 k2 k60 hr2 t2
        rw [p2] at s3
        exact ⟨s1, by omega, by omega⟩
      · rw [if_neg w3] at t2
        injection t2 with t2
        subst t2
        refine ⟨hr2, by show gm_len s ≤ gm_len (gm_d t); omega, ?_⟩
        show gm_pot Y ((2, 0, 0) :: r) + 1 ≤ 3 * (wk_e Y b - b) - 1 + gm_pot Y r + 360 * (gm_len (gm_d t) - gm_len s)
        rw [p2]
        omega
    rw [if_neg w2] at h
    obtain ⟨s1, s2, s3⟩ := gm_sg_pot hL k1 k2 k60 hr h
    have e2 : gm_len (gm_op z s) = gm_len s := by unfold gm_len; rw [T2]
    rw [e2] at s2 s3
    exact ⟨s1, s2, by omega⟩
  rw [if_neg c0] at h
  by_cases c1 : a = 1
  · subst c1
    obtain ⟨k1, k2, k61⟩ := h1 rfl
    rw [if_pos rfl] at h
    obtain ⟨-, -, f1, -, f3, f4⟩ := hL.2.2.2 b k1 k2
    rw [gm_e_1]
    have it : ∀ j : Nat, (j : Int) < g 130 b.toNat → gm_K Y (wk_it g 61 (g 126 (wk_alt g j (g 129 b.toNat)).toNat)) ∧ gm_pot Y (wk_it g 61 (g 126 (wk_alt g j (g 129 b.toNat)).toNat)) ≤ 3 * (wk_x Y b - wk_b Y b) - 3 := by
      intro j hj
      obtain ⟨-, -, j3⟩ := f4 j hj
      obtain ⟨i1, i2, i3⟩ := gm_it hL k61 61 _ j3
      refine ⟨i1, ?_⟩
      rcases j3 with j3 | ⟨j3, j4⟩
      · have := i2 j3
        omega
      · by_cases c : g 126 (wk_alt g j (g 129 b.toNat)).toNat < 0
        · have := i2 c
          omega
        · have := i3 (by omega)
          have := (hL.2.2.1 _ (by omega) j3).1.2.2.1
          rw [j4] at this
          omega
    by_cases w1 : 1 < g 130 b.toNat
    · rw [if_pos w1] at h
      obtain ⟨t, t1, t2⟩ := Option.map_eq_some_iff.mp h
      obtain ⟨-, q2⟩ := gm_c_len t1
      have q2 : (gm_T t).length = (gm_T s).length + 1 := q2
      subst t2
      have e1 : gm_len (gm_d t) = gm_len s + 1 := by
        show ((gm_T t).length : Int) = ((gm_T s).length : Int) + 1
        omega
      obtain ⟨b1, b2⟩ := gm_w_b hv f1 (hm b k1 k2) s
      obtain ⟨i1, i2⟩ := it (gm_w g b s).toNat (by omega)
      refine ⟨gm_K_a _ _ i1 ⟨gm_k_o (by decide) (by decide) (by decide), hr⟩, by show gm_len s ≤ gm_len (gm_d t); omega, ?_⟩
      show gm_pot Y (_ ++ _) + 1 ≤ _ + 360 * (gm_len (gm_d t) - gm_len s)
      rw [gm_pot_a, e1]
      show _ + (gm_e1 Y (2, 0, 0) + gm_pot Y r) + 1 ≤ _
      rw [gm_e_o (by decide) (by decide) (by decide)]
      omega
    · rw [if_neg w1] at h
      injection h with h
      subst h
      obtain ⟨i1, i2⟩ := it 0 (by omega)
      refine ⟨gm_K_a _ _ i1 hr, Int.le_refl _, ?_⟩
      show gm_pot Y (_ ++ _) + 1 ≤ _ + 360 * (gm_len s - gm_len s)
      rw [gm_pot_a]
      have i2 : gm_pot Y (wk_it g 61 (g 126 (g 129 b.toNat).toNat)) ≤ 3 * (wk_x Y b - wk_b Y b) - 3 := i2
      omega
  rw [if_neg c1] at h
  by_cases c5 : a = 5
  · subst c5
    obtain ⟨k1, k2, k3, k60⟩ := h5 rfl
    rw [if_pos rfl] at h
    have l1 := (hL.2.2.1 b k1 k2).1.1
    by_cases w1 : 0 < z
    · rw [if_pos w1] at h
      have hr2 : gm_K Y ((5, b, z - 1) :: r) := ⟨gm_k_5 k1 k2 (by omega) k60, hr⟩
      have p2 : gm_pot Y ((5, b, z - 1) :: r) = gm_e1 Y (5, b, z - 1) + gm_pot Y r := rfl
      obtain ⟨s1, s2, s3⟩ := gm_sg_pot hL k1 k2 k60 hr2 h
      rw [p2, gm_e_5] at s3
      refine ⟨s1, s2, ?_⟩
      rw [gm_e_5, if_neg (by omega)]
      by_cases z1 : z = 1
      · rw [if_pos (by omega)] at s3
        rw [if_pos z1]
        omega
      · rw [if_neg (by omega), if_pos (by omega)] at s3
        rw [if_neg z1]
        omega
    · rw [if_neg w1] at h
      injection h with h
      subst h
      refine ⟨hr, Int.le_refl _, ?_⟩
      show gm_pot Y r + 1 ≤ gm_e1 Y (5, b, z) + gm_pot Y r + 360 * (gm_len s - gm_len s)
      rw [gm_e_5, if_pos (by omega)]
      omega
  rw [if_neg c5] at h
  rw [gm_e_o c0 c1 c5]
  have fin : ∀ s' : gm_S, gm_len s' = gm_len s → some (r, s') = some c → gm_K Y c.1 ∧ gm_len s ≤ gm_len c.2 ∧ gm_pot Y c.1 + 1 ≤ 1 + gm_pot Y r + 360 * (gm_len c.2 - gm_len s) := by
    intro s' e h
    injection h with h
    subst h
    refine ⟨hr, by show gm_len s ≤ gm_len s'; omega, ?_⟩
    show gm_pot Y r + 1 ≤ 1 + gm_pot Y r + 360 * (gm_len s' - gm_len s)
    omega
  by_cases c2 : a = 2
  · rw [if_pos c2] at h
    exact fin (gm_X s, gm_F s, gm_T s, gm_D s - 1, gm_P s) rfl h
  rw [if_neg c2] at h
  by_cases c3 : a = 3
  · rw [if_pos c3] at h
    exact fin (gm_mid s) rfl h
  rw [if_neg c3] at h
  exact fin (gm_tu s) (gm_tu_len s) h
/-- all turns -/
theorem gm_to_pot (hL : wk_L g Y) (hv : gm_vb) (hm : ∀ f, 0 ≤ f → f < wk_f Y → g 130 f.toNat ≤ 10000) {d : gm_C} : ∀ (n : Nat) (c : gm_C), gm_K Y c.1 → gm_to g kw n c d → gm_K Y d.1 ∧ gm_len c.2 ≤ gm_len d.2 ∧ (n : Int) + gm_pot Y d.1 ≤ gm_pot Y c.1 + 360 * (gm_len d.2 - gm_len c.2) := by
  intro n
  induction n with
  | zero =>
    intro c hK h
    have h : c = d := h
    subst h
    exact ⟨hK, Int.le_refl _, by omega⟩
  | succ n ih =>
    intro c hK h
    obtain ⟨e, r, c1, k1, k2, k3⟩ := h
    rw [k1] at hK ⊢
    obtain ⟨a1, a2, a3⟩ := gm_st_pot hL hv hm hK k2
    obtain ⟨b1, b2, b3⟩ := ih c1 a1 k3
    exact ⟨b1, by omega, by omega⟩
end GM2
/-! the growing walk of the reference, exactly: what lies in its arrays beside the pure one; draw, comes -/
theorem gm_vbt : gm_vb := by
  intro x n h0 h1
  have ok : mi_in n := ⟨by omega, by omega⟩
  have ey : ((Int32.ofInt n).toInt64).toInt = n := by rw [Int32.toInt_toInt64, mi_ti ok]
  obtain ⟨x0, x1⟩ := dr_x x
  unfold gm_v
  rw [dr_mod x0 x1 (by rw [ey]; exact h0), ey]
  exact ⟨Int.emod_nonneg _ (by omega), Int.emod_lt_of_pos _ h0⟩
/-- the nodes: what is the k-th one, through the order -/
def gx_T (h : sm_H) (T : List (Int × Int × Int)) : Prop := mi_f h 14016 = (T.length : Int) ∧ (∀ k : Nat, k < T.length → 0 ≤ mi_a h 160 k ∧ mi_a h 160 k < (T.length : Int) ∧ T[k]? = some (mi_a h 158 (mi_a h 160 k).toNat + 10 * mi_a h 160 k, (mx_b h 163 (mi_a h 160 k).toNat).toInt, mi_a h 159 (mi_a h 160 k).toNat) ∧ 0 ≤ mi_a h 158 (mi_a h 160 k).toNat ∧ mi_a h 158 (mi_a h 160 k).toNat < 10) ∧ ∀ k j : Nat, k < T.length → j < T.length → mi_a h 160 k = mi_a h 160 j → k = j
def gx_P (h : sm_H) : List (Nat × Nat) → Prop
  | [] => True
  | p :: q => mi_a h 168 q.length = (p.1 : Int) ∧ (p.2 = 0 ∨ mi_a h 169 q.length = (p.2 : Int)) ∧ gx_P h q
def gx_R (h : sm_H) (s : gm_S) : Prop := gx_T h (gm_T s) ∧ mx_l h 14047 = gm_X s ∧ mi_f h 14035 = gm_F s ∧ mi_f h 14031 = gm_D s ∧ mi_f h 14030 = ((gm_P s).length : Int) ∧ gx_P h (gm_P s)
section GX1
variable {h h' : sm_H} {s : gm_S} {d : Nat} {wr : List (Nat × Nat)}
theorem gx_T_fr {T : List (Int × Int × Int)} (hT : gx_T h T) (hF : ab_Fr wr h h') (hS : ab_Sh sx_sk h) (hw : (ab_in wr 14016 || ab_in wr 20224 || ab_in wr 20352 || ab_in wr 20480 || ab_in wr 20864) = false) : gx_T h' T := by
  simp only [Bool.or_eq_false_iff] at hw
  obtain ⟨⟨⟨⟨w1, w2⟩, w3⟩, w4⟩, w5⟩ := hw
  have e1 : mi_f h' 14016 = mi_f h 14016 := me_f (c := 14016) hF hS rfl w1
  have e2 : ∀ i, mi_a h' 158 i = mi_a h 158 i := fun i => me_a (k := 158) hF hS rfl w2
  have e3 : ∀ i, mi_a h' 159 i = mi_a h 159 i := fun i => me_a (k := 159) hF hS rfl w3
  have e4 : ∀ i, mi_a h' 160 i = mi_a h 160 i := fun i => me_a (k := 160) hF hS rfl w4
  have e5 : ∀ i, mx_b h' 163 i = mx_b h 163 i := fun i => me_b (k := 163) hF hS rfl w5
  unfold gx_T at hT ⊢
  simp only [e1, e2, e3, e4, e5]
  exact hT
theorem gx_P_fr (hF : ab_Fr wr h h') (hS : ab_Sh sx_sk h) (hw : (ab_in wr 21504 || ab_in wr 21632) = false) : ∀ q : List (Nat × Nat), gx_P h q → gx_P h' q := by
  simp only [Bool.or_eq_false_iff] at hw
  intro q
  induction q with
  | nil => intro _; trivial
  | cons p q ih =>
    intro hq
    obtain ⟨a, b, c⟩ := hq
    exact ⟨(me_a (k := 168) hF hS rfl hw.1).trans a, b.imp_right (fun b => (me_a (k := 169) hF hS rfl hw.2).trans b), ih c⟩
theorem me_drawx {zn : Int} (hS : ab_Sh sx_sk h) (h0 : 0 < zn) (h1 : zn ≤ 2147483647) : me_E d 211 0 [some (.inr (.inr 109)), some (.inl zn)] [] h (fun w h' => ab_Sh sx_sk h' ∧ ab_Fr [(14047, 14048)] h h' ∧ mx_l h' 14047 = gm_x (mx_l h 14047) ∧ w = some (.inl (gm_v (gm_x (mx_l h 14047)) zn))) := by
  have ok : mi_in zn := ⟨by omega, by omega⟩
  have ey : ((Int32.ofInt zn).toInt64).toInt = zn := by rw [Int32.toInt_toInt64, mi_ti ok]
  refine mt_draw hS ok ⟨fun e => ?_, fun h1 g1 g2 g3 => ⟨g1, g3, g2, rfl⟩⟩
  rw [e] at ey
  have : (0 : Int64).toInt = 0 := rfl
  omega
/-- a node comes, or the limit is passed -/
theorem gx_T_c {T : List (Int × Int × Int)} (hT : gx_T h T) {zk : Int} {zv : Int64} (hk0 : 0 ≤ zk ∧ zk < 10) (g16 : mi_f h' 14016 = mi_f h 14016 + 1) (g158 : ∀ i, mi_a h' 158 i = if i = Int.toNat (mi_f h 14016) then zk else mi_a h 158 i) (g159 : ∀ i, mi_a h' 159 i = if i = Int.toNat (mi_f h 14016) then mi_f h 14031 else mi_a h 159 i) (g160 : ∀ i, mi_a h' 160 i = if i = Int.toNat (mi_f h 14016) then mi_f h 14016 else mi_a h 160 i) (g163 : ∀ i, mx_b h' 163 i = if i = Int.toNat (mi_f h 14016) then zv else mx_b h 163 i) : gx_T h' (T ++ [(zk + 10 * (T.length : Int), zv.toInt, mi_f h 14031)]) := by
  obtain ⟨t1, t2, t3⟩ := hT
  have el : (T ++ [(zk + 10 * (T.length : Int), zv.toInt, mi_f h 14031)]).length = T.length + 1 := by rw [List.length_append]; rfl
  have et : Int.toNat (mi_f h 14016) = T.length := by omega
  rw [et] at g158 g159 g160 g163
  refine ⟨by rw [el, g16, t1]; omega, fun k hk => ?_, fun k j hk hj e => ?_⟩
  · rw [el] at hk ⊢
    by_cases c : k = T.length
    · have o : mi_a h' 160 k = (T.length : Int) := by rw [g160, if_pos c, t1]
      have on : (mi_a h' 160 k).toNat = T.length := by omega
      rw [on, g158, g159, g163, if_pos rfl, if_pos rfl, if_pos rfl]
      refine ⟨by omega, by omega, ?_, hk0⟩
      rw [o, c, List.getElem?_append_right (Nat.le_refl _), Nat.sub_self]
      rfl
    · obtain ⟨a1, a2, a3⟩ := t2 k (by omega)
      have o : mi_a h' 160 k = mi_a h 160 k := by rw [g160, if_neg c]
      rw [o]
      have nn : (mi_a h 160 k).toNat ≠ T.length := by omega
      rw [g158, g159, g163, if_neg nn, if_neg nn, if_neg nn]
      refine ⟨a1, by omega, ?_, a3.2⟩
      rw [List.getElem?_append_left (by omega)]
      exact a3.1
  · rw [el] at hk hj
    rw [g160, g160] at e
    by_cases c : k = T.length
    · by_cases c2 : j = T.length
      · omega
      · rw [if_pos c, if_neg c2] at e
        have := t2 j (by omega)
        omega
    · by_cases c2 : j = T.length
      · rw [if_neg c, if_pos c2] at e
        have := t2 k (by omega)
        omega
      · rw [if_neg c, if_neg c2] at e
        exact t3 k j (by omega) (by omega) e
theorem me_comesx {zk : Int} {zv : Int64} (hS : ab_Sh sx_sk h) (hm : mi_f h 14028 = 1) (hk0 : 0 ≤ zk ∧ zk < 10) (hR : gx_R h s) : me_E d 208 0 [some (.inr (.inr 109)), some (.inl zk), some (.inr (.inl zv)), none] [] h (fun w h' => ab_Sh sx_sk h' ∧ ab_Fr [(14016, 14017), (14044, 14045), (20224, 20225), (20352, 20353), (20480, 20481), (20864, 20865)] h h' ∧ (∃ z, w = some (.inl z)) ∧ ((gm_c zk zv.toInt s = none ∧ mi_f h' 14044 = 1) ∨ (mi_f h' 14044 = 0 ∧ ∃ t, gm_c zk zv.toInt s = some t ∧ gx_R h' t))) := by
  obtain ⟨r1, r2, r3, r4, r5, r6⟩ := hR
  have rl := r1.1
  have ok : mi_in zk := ⟨by omega, by omega⟩
  refine mt_comes hS ok ?_ ?_ ?_
  · intro b1 b2 c1 c2
    refine ⟨⟨⟨by omega, by omega⟩, ⟨by omega, by omega⟩, ⟨by omega, by omega⟩, by omega, by omega⟩, fun h1 g1 g2 g3 g4 g5 g6 g7 g8 => ⟨g1, g8, ⟨_, rfl⟩, Or.inr ⟨g3, (gm_X s, gm_F s, gm_T s ++ [(zk + 10 * ((gm_T s).length : Int), zv.toInt, gm_D s)], gm_D s, gm_P s), ?_, ?_⟩⟩⟩
    · unfold gm_c
      rw [if_neg (by omega)]
    · have n := gx_T_c r1 hk0 g2 g4 g5 g6 g7
      rw [r4] at n
      unfold gx_R
      rw [gm_T_mk, gm_X_mk, gm_F_mk, gm_D_mk, gm_P_mk]
      exact ⟨n, (me_l (c := 14047) g8 hS rfl rfl).trans r2, (me_f (c := 14035) g8 hS rfl rfl).trans r3, (me_f (c := 14031) g8 hS rfl rfl).trans r4, (me_f (c := 14030) g8 hS rfl rfl).trans r5, gx_P_fr g8 hS rfl _ r6⟩
  · intro b1 b2 c1 c2 h1 g1 g2 g3
    refine ⟨g1, g3.wide (fun c hc => ab_swr_ok (by decide) hc), ⟨_, rfl⟩, Or.inl ⟨?_, g2⟩⟩
    unfold gm_c
    rw [if_pos (by omega)]
  · intro b1 b2 c1
    omega
end GX1
/-- how many are open: as many as are to be left -/
def gm_outs : List wk_E → Int
  | [] => 0
  | e :: r => (if e.1 = 2 then 1 else 0) + gm_outs r
theorem gm_outs_nn : ∀ r : List wk_E, 0 ≤ gm_outs r := by
  intro r
  induction r with
  | nil => exact Int.le_refl _
  | cons e r ih =>
    show 0 ≤ (if e.1 = 2 then 1 else 0) + gm_outs r
    split <;> omega
theorem gm_outs_a : ∀ (r q : List wk_E), gm_outs (r ++ q) = gm_outs r + gm_outs q := by
  intro r q
  induction r with
  | nil => show gm_outs q = 0 + _; omega
  | cons e r ih => show (if e.1 = 2 then 1 else 0) + gm_outs (r ++ q) = (if e.1 = 2 then 1 else 0) + gm_outs r + gm_outs q; omega
theorem gm_outs_it {g : wk_g} : ∀ (n : Nat) (u : Int), gm_outs (wk_it g n u) = 0 := by
  intro n
  induction n with
  | zero => intro u; rfl
  | succ n ih =>
    intro u
    unfold wk_it
    by_cases c : u < 0
    · rw [if_pos c]; rfl
    · rw [if_neg c]
      by_cases c2 : 0 ≤ g 124 u.toNat
      · rw [if_pos c2]
        show 0 + (0 + (0 + (0 + gm_outs (wk_it g n (g 125 u.toNat))))) = 0
        rw [ih]
        rfl
      · rw [if_neg c2]
        show 0 + gm_outs (wk_it g n (g 125 u.toNat)) = 0
        rw [ih]
        rfl
/-! enter, exactly -/
section GX2
variable {h : sm_H} {s : gm_S} {d : Nat}
theorem gx_wrap {a : Int} (h0 : -1000 ≤ a) (h1 : a ≤ 1000) : (Int32.ofInt a - Int32.ofInt (1 : Int)).toInt = a - 1 ∧ (Int32.ofInt a + Int32.ofInt (1 : Int)).toInt = a + 1 := by
  have e1 : (Int32.ofInt a).toInt = a := mi_ti ⟨by omega, by omega⟩
  have e2 : (Int32.ofInt (1 : Int)).toInt = 1 := mi_ti ⟨by decide, by decide⟩
  constructor
  · rw [Int32.toInt_sub, e1, e2]
    exact Int.bmod_eq_of_le (by omega) (by omega)
  · rw [Int32.toInt_add, e1, e2]
    exact Int.bmod_eq_of_le (by omega) (by omega)
def gx_Q (h : sm_H) (m : Option gm_C) (w : Option mi_V) (h' : sm_H) : Prop := w = none ∧ ab_Sh sx_sk h' ∧ ab_Fr wr_W1 h h' ∧ mi_f h' 14034 = mi_f h 14034 ∧ mi_f h' 14033 = mi_f h 14033 ∧ ((m = none ∧ mi_f h' 14044 = 1) ∨ (mi_f h' 14044 = 0 ∧ ∃ c, m = some c ∧ wk_stk h' = c.1 ∧ gx_R h' c.2 ∧ mi_f h' 14032 = wk_ul c.1))
theorem me_enterx {zr : Int} (hS : ab_Sh sx_sk h) (hm : mi_f h 14028 = 1) (ht0 : 0 ≤ mi_f h 14029) (ht : mi_f h 14029 ≤ 2990) (hu : mi_f h 14032 = wk_ul (wk_stk h)) (hu1 : mi_f h 14032 ≤ 12) (hu0 : 0 ≤ mi_f h 14032) (hz0 : 0 ≤ zr) (hz1 : zr < 10) (hR : gx_R h s) (hF0 : -1000 ≤ gm_F s) (hF1 : gm_F s ≤ 1000) (hD0 : -1000 ≤ gm_D s) (hD1 : gm_D s ≤ 999) : me_E (d + 2) 207 0 [some (.inr (.inr 109)), some (.inl zr)] [] h (gx_Q h (gm_en (mi_a h) zr (wk_stk h) s)) := by
  have ok : mi_in zr := ⟨by omega, by omega⟩
  have ez : ((Int32.ofInt zr).toInt64).toInt = zr := by rw [Int32.toInt_toInt64, mi_ti ok]
  obtain ⟨r1, r2, r3, r4, r5, r6⟩ := hR
  refine mt_enA hS ok ?_ ?_ ?_
  · intro b1 c1 h1 g1 g2 g3 g4
    have hR1 : gx_R h1 (gm_X s, gm_F s - 1, gm_T s, gm_D s, gm_P s) := by
      unfold gx_R
      rw [gm_T_mk, gm_X_mk, gm_F_mk, gm_D_mk, gm_P_mk]
      refine ⟨gx_T_fr r1 g4 hS rfl, (me_l (c := 14047) g4 hS rfl rfl).trans r2, ?_, (me_f (c := 14031) g4 hS rfl rfl).trans r4, (me_f (c := 14030) g4 hS rfl rfl).trans r5, gx_P_fr g4 hS rfl _ r6⟩
      rw [g2, r3]
      exact (gx_wrap hF0 hF1).1
    have f28 : mi_f h1 14028 = mi_f h 14028 := me_f (c := 14028) g4 hS rfl rfl
    refine ⟨_, me_comesx g1 (f28.trans hm) ⟨by decide, by decide⟩ hR1, ?_⟩
    intro w h2 hw hq
    obtain ⟨q1, q2, ⟨z, rfl⟩, q3⟩ := hq
    rw [ez] at q3
    have k29 : mi_f h2 14029 = mi_f h 14029 := (me_f (c := 14029) q2 g1 rfl rfl).trans (me_f (c := 14029) g4 hS rfl rfl)
    have k32 : mi_f h2 14032 = mi_f h 14032 := (me_f (c := 14032) q2 g1 rfl rfl).trans (me_f (c := 14032) g4 hS rfl rfl)
    have kst : wk_stk h2 = wk_stk h := (wk_stk_fr q2 g1 rfl).trans (wk_stk_fr g4 hS rfl)
    have k114 : mi_a h2 114 zr.toNat = mi_a h 114 zr.toNat := (me_a (k := 114) q2 g1 rfl rfl).trans (me_a (k := 114) g4 hS rfl rfl)
    refine mt_enB q1 ok (hw _ rfl) ?_
    intro b1 b2
    refine ⟨by omega, ?_⟩
    intro h3 s1 s29 s31 s32 a5 a6 a7 s4
    have hFr : ab_Fr wr_W1 h h3 := ((g4.wide (fun c hc => ab_swr_ok (by decide) hc)).trans (q2.wide (fun c hc => ab_swr_ok (by decide) hc))).trans (s4.wide (fun c hc => ab_swr_ok (by decide) hc))
    have l44 : mi_f h3 14044 = mi_f h2 14044 := me_f (c := 14044) s4 q1 rfl rfl
    refine ⟨rfl, s1, hFr, ((me_f (c := 14034) s4 q1 rfl rfl).trans (me_f (c := 14034) q2 g1 rfl rfl)).trans (me_f (c := 14034) g4 hS rfl rfl), ((me_f (c := 14033) s4 q1 rfl rfl).trans (me_f (c := 14033) q2 g1 rfl rfl)).trans (me_f (c := 14033) g4 hS rfl rfl), ?_⟩
    unfold gm_en
    rw [if_neg (by omega)]
    rcases q3 with ⟨e1, e2⟩ | ⟨e1, t, e2, e3⟩
    · refine Or.inl ⟨?_, l44.trans e2⟩
      rw [e1]
      rfl
    · refine Or.inr ⟨l44.trans e1, ((1, mi_a h 114 zr.toNat, 0) :: (2, 1, 0) :: wk_stk h, gm_d t), ?_, ?_, ?_, ?_⟩
      · rw [e2]
        rfl
      · have := wk_push2 (by omega) s29 a5 a6 a7
        rw [k114, kst] at this
        exact this
      · obtain ⟨t1, t2, t3, t4, t5, t6⟩ := e3
        have eD : gm_D t = gm_D s := by
          unfold gm_c at e2
          split at e2
          · cases e2
          · injection e2 with e2
            rw [← e2, gm_D_mk, gm_D_mk]
        unfold gm_d gx_R
        rw [gm_T_mk, gm_X_mk, gm_F_mk, gm_D_mk, gm_P_mk]
        refine ⟨gx_T_fr t1 s4 q1 rfl, (me_l (c := 14047) s4 q1 rfl rfl).trans t2, (me_f (c := 14035) s4 q1 rfl rfl).trans t3, ?_, (me_f (c := 14030) s4 q1 rfl rfl).trans t5, gx_P_fr s4 q1 rfl _ t6⟩
        rw [s31, t4, eD]
        exact (gx_wrap hD0 (by omega)).2
      · show _ = 0 + (1 + wk_ul (wk_stk h))
        omega
  · intro b1 b2 c1 c2
    omega
  · intro b1 b2 c1 c2 h1 g1 g2 g3
    refine ⟨rfl, g1, g3.wide (fun c hc => ab_swr_ok (by decide) hc), me_f (c := 14034) g3 hS rfl rfl, me_f (c := 14033) g3 hS rfl rfl, Or.inl ⟨?_, g2⟩⟩
    unfold gm_en
    rw [if_pos (by omega)]
end GX2
/-! which codes are keywords, exactly -/
def gx_kw (n : Int) (B : Nat → Int64) (v : Int) : Bool := (List.range n.toNat).any (fun l => decide (B l ≠ 0 ∧ (B l).toInt = v))
theorem gx_kw_iff {n : Int} {B : Nat → Int64} {v : Int} : gx_kw n B v = true ↔ ∃ l : Nat, (l : Int) < n ∧ B l ≠ 0 ∧ (B l).toInt = v := by
  unfold gx_kw
  rw [List.any_eq_true]
  constructor
  · rintro ⟨l, h1, h2⟩
    have h1 := List.mem_range.mp h1
    have h2 := of_decide_eq_true h2
    exact ⟨l, by omega, h2.1, h2.2⟩
  · rintro ⟨l, h1, h2, h3⟩
    exact ⟨l, List.mem_range.mpr (by omega), decide_eq_true ⟨h2, h3⟩⟩
section GX3
variable {d : Nat}
theorem gx_cmpn {x y : Int64} (h : (lg_cmp x y).toInt ≠ 0) : x ≠ y := by
  intro e
  subst e
  apply h
  unfold lg_cmp
  split
  · next q => exact absurd q (by first | exact Int64.lt_irrefl _ | simp)
  · split
    · rfl
    · next q => exact absurd rfl q
theorem me_kwBx {zw : Int64} : ∀ (N : Nat) (zl : Int) (h : sm_H), ab_Sh sx_sk h → 20 - zl < N → 0 ≤ zl → zl ≤ 20 → (∀ l : Nat, (l : Int) < zl → ¬ (mx_b h 118 l ≠ 0 ∧ mx_b h 118 l = zw)) → me_E d 216 2 [some (.inr (.inr 109)), some (.inr (.inl zw)), none, some (.inl zl)] [] h (fun w h' => ab_Sh sx_sk h' ∧ ab_Fr [] h h' ∧ ∃ z, w = some (.inl z) ∧ -1 ≤ z ∧ z < 20 ∧ (0 ≤ z → mx_b h 118 z.toNat = zw) ∧ (0 ≤ z ↔ ∃ l : Nat, (l : Int) < mi_f h 13962 ∧ mx_b h 118 l ≠ 0 ∧ mx_b h 118 l = zw)) := by
  intro N
  induction N with
  | zero => intro zl h hS h1 h2 h3; omega
  | succ N ih =>
    intro zl h hS h1 h2 h3 hno
    have ok : mi_in zl := ⟨by omega, by omega⟩
    have back : ∀ h1, ab_Sh sx_sk h1 → ab_Fr [] h h1 → zl < mi_f h 13962 → mi_f h 13962 ≤ 20 → ¬ (mx_b h 118 zl.toNat ≠ 0 ∧ mx_b h 118 zl.toNat = zw) → me_E d 216 2 [some (.inr (.inr 109)), some (.inr (.inl zw)), none, some (.inl (zl + 1))] [] h1 (fun w h' => ab_Sh sx_sk h' ∧ ab_Fr [] h h' ∧ ∃ z, w = some (.inl z) ∧ -1 ≤ z ∧ z < 20 ∧ (0 ≤ z → mx_b h 118 z.toNat = zw) ∧ (0 ≤ z ↔ ∃ l : Nat, (l : Int) < mi_f h 13962 ∧ mx_b h 118 l ≠ 0 ∧ mx_b h 118 l = zw)) := by
      intro h1 g1 g2 c b nn
      have eb : ∀ i, mx_b h1 118 i = mx_b h 118 i := fun i => me_b (k := 118) g2 hS rfl rfl
      have ef : mi_f h1 13962 = mi_f h 13962 := me_f (c := 13962) g2 hS rfl rfl
      refine (ih _ h1 g1 (by omega) (by omega) (by omega) (fun l hl => ?_)).imp (fun w h' hq => ⟨hq.1, g2.trans hq.2.1, ?_⟩)
      · rw [eb]
        by_cases e : (l : Int) = zl
        · have : zl.toNat = l := by omega
          rw [this] at nn
          exact nn
        · exact hno l (by omega)
      · obtain ⟨z, z1, z2, z3, z4, z5⟩ := hq.2.2
        simp only [eb, ef] at z4 z5
        exact ⟨z, z1, z2, z3, z4, z5⟩
    refine mt_kwB hS ok ?_ ?_ ?_ ?_
    · intro b c1 h1 g1 g2
      refine ⟨g1, g2, -1, rfl, by decide, by decide, fun h => absurd h (by decide), fun h => absurd h (by decide), ?_⟩
      rintro ⟨l, l1, l2, l3⟩
      exact absurd ⟨l2, l3⟩ (hno l (by omega))
    · intro b c1 c2
      exact ⟨by omega, fun h1 g1 g2 => back h1 g1 g2 c1 b.2 (fun q => q.1 (lg_cmp0 c2))⟩
    · intro b c1 c2 c3
      exact ⟨by omega, fun h1 g1 g2 => back h1 g1 g2 c1 b.2 (fun q => gx_cmpn c3 q.2)⟩
    · intro b c1 c2 c3
      exact ⟨by omega, fun h1 g1 g2 => ⟨g1, g2, zl, rfl, by omega, by omega, fun _ => lg_cmp0 c3, fun _ => ⟨zl.toNat, by omega, gx_cmpn c2, lg_cmp0 c3⟩, fun _ => by omega⟩⟩
theorem me_keywordOfx {zw : Int64} {h : sm_H} (hS : ab_Sh sx_sk h) : me_E d 216 0 [some (.inr (.inr 109)), some (.inr (.inl zw)), none, none] [] h (fun w h' => ab_Sh sx_sk h' ∧ ab_Fr [] h h' ∧ ∃ z, w = some (.inl z) ∧ -1 ≤ z ∧ z < 20 ∧ (0 ≤ z → mx_b h 118 z.toNat = zw) ∧ (0 ≤ z ↔ gx_kw (mi_f h 13962) (mx_b h 118) zw.toInt = true)) := by
  refine mt_kwA hS ?_
  intro h1 g1 g2
  have eb : ∀ i, mx_b h1 118 i = mx_b h 118 i := fun i => me_b (k := 118) g2 hS rfl rfl
  have ef : mi_f h1 13962 = mi_f h 13962 := me_f (c := 13962) g2 hS rfl rfl
  refine (me_kwBx 30 0 h1 g1 (by omega) (by omega) (by omega) (fun l hl => by omega)).imp (fun w h' hq => ⟨hq.1, g2.trans hq.2.1, ?_⟩)
  obtain ⟨z, z1, z2, z3, z4, z5⟩ := hq.2.2
  simp only [eb, ef] at z4 z5
  refine ⟨z, z1, z2, z3, z4, z5.trans ?_⟩
  rw [gx_kw_iff]
  constructor
  · rintro ⟨l, l1, l2, l3⟩
    exact ⟨l, l1, l2, by rw [l3]⟩
  · rintro ⟨l, l1, l2, l3⟩
    exact ⟨l, l1, l2, Int64.toInt_inj.mp l3⟩
end GX3
/-! grown, exactly -/
def gl_Q (h : sm_H) (m : Option gm_S) (w : Option mi_V) (h' : sm_H) : Prop := w = none ∧ ab_Sh sx_sk h' ∧ ab_Fr wr_L h h' ∧ mi_f h' 14034 = mi_f h 14034 ∧ mi_f h' 14033 = mi_f h 14033 ∧ ((m = none ∧ mi_f h' 14044 = 1) ∨ (mi_f h' 14044 = 0 ∧ ∃ t, m = some t ∧ gx_R h' t))
section GX4
variable {h : sm_H} {d : Nat} {zu : Int}
theorem gx_or {zv y : Int64} {v a k : Nat} (hv : zv.toBitVec.toNat = v) (hk : v < 2 ^ k) (hy : y.toBitVec.toNat = a * 2 ^ k) : (zv ||| y).toBitVec.toNat = v + a * 2 ^ k := by
  rw [Int64.toBitVec_or, BitVec.toNat_or, hv, hy, Nat.or_comm, ← Nat.shiftLeft_eq, ← Nat.shiftLeft_add_eq_or_of_lt hk, Nat.shiftLeft_eq, Nat.add_comm]
theorem gx_32 (k : Nat) : ((2 ^ (5 * k) : Nat) : Int) = 32 ^ k := by
  rw [Nat.pow_mul]
  norm_cast
theorem gx_R_fr0 {h' : sm_H} {s : gm_S} {wr : List (Nat × Nat)} (hR : gx_R h s) (hF : ab_Fr wr h h') (hS : ab_Sh sx_sk h) (hw : wr = []) : gx_R h' s := by
  subst hw
  obtain ⟨r1, r2, r3, r4, r5, r6⟩ := hR
  exact ⟨gx_T_fr r1 hF hS rfl, (me_l (c := 14047) hF hS rfl rfl).trans r2, (me_f (c := 14035) hF hS rfl rfl).trans r3, (me_f (c := 14031) hF hS rfl rfl).trans r4, (me_f (c := 14030) hF hS rfl rfl).trans r5, gx_P_fr hF hS rfl _ r6⟩
/-- a draw beside the pure one -/
theorem gx_R_x {h' : sm_H} {s : gm_S} (hR : gx_R h s) (hF : ab_Fr [(14047, 14048)] h h') (hS : ab_Sh sx_sk h) (e : mx_l h' 14047 = gm_x (mx_l h 14047)) : gx_R h' (gm_x (gm_X s), gm_F s, gm_T s, gm_D s, gm_P s) := by
  obtain ⟨r1, r2, r3, r4, r5, r6⟩ := hR
  unfold gx_R
  rw [gm_T_mk, gm_X_mk, gm_F_mk, gm_D_mk, gm_P_mk]
  exact ⟨gx_T_fr r1 hF hS rfl, by rw [e, r2], (me_f (c := 14035) hF hS rfl rfl).trans r3, (me_f (c := 14031) hF hS rfl rfl).trans r4, (me_f (c := 14030) hF hS rfl rfl).trans r5, gx_P_fr hF hS rfl _ r6⟩
theorem gr_kwx (hS : ab_Sh sx_sk h) (hm : mi_f h 14028 = 1) (hu0 : 0 ≤ zu) (hu1 : zu < 60) {zk : Int} (okk : mi_in zk) : ∀ (m : Nat) (zn : Int) (zv : Int64) (v : Nat) (h1 : sm_H) (s1 : gm_S), 8 ≤ m + zn.toNat → 1 ≤ zn → zn ≤ 7 → zv.toBitVec.toNat = v → v < 2 ^ (5 * zn.toNat) → (zn = 7 → 2 ^ 30 ≤ v) → ab_Sh sx_sk h1 → ab_Fr [(14047, 14048)] h h1 → gx_R h1 s1 → me_E (d + 1) 215 76 [some (.inr (.inr 109)), some (.inl zu), some (.inl zn), some (.inr (.inl zv)), none, some (.inl zk)] [] h1 (gl_Q h (gm_c 3 (gm_zs (gx_kw (mi_f h 13962) (mx_b h 118)) m zn.toNat (v : Int)) s1)) := by
  intro m
  induction m with
  | zero => intro zn zv v h1 s1 a1 a2 a3; omega
  | succ m ih =>
    intro zn zv v h1 s1 a1 a2 a3 av a4 a5 g1 g2 hR
    have oku : mi_in zu := ⟨by omega, by omega⟩
    have okn : mi_in zn := ⟨by omega, by omega⟩
    have hle35 : (2 : Nat) ^ (5 * zn.toNat) ≤ 2 ^ 35 := Nat.pow_le_pow_right (by decide) (by omega)
    have e0 : zv.toInt = (v : Int) := by
      rw [← av]
      show zv.toBitVec.toInt = _
      exact BitVec.toInt_eq_toNat_of_lt (by omega)
    refine mt_grG g1 oku okn okk ?_
    intro h2 p1 p2
    refine ⟨_, me_keywordOfx p1, ?_⟩
    intro w h3 hw hq
    obtain ⟨q1, q2, z, rfl, q3, q4, q5, q6⟩ := hq
    have F2 : ab_Fr [(14047, 14048)] h h2 := g2.trans (p2.wide (fun c hc => by cases hc))
    have F3 : ab_Fr [(14047, 14048)] h h3 := F2.trans (q2.wide (fun c hc => by cases hc))
    have R3 : gx_R h3 s1 := gx_R_fr0 (gx_R_fr0 hR p2 g1 rfl) q2 p1 rfl
    have eb : mx_b h2 118 = mx_b h 118 := funext fun i => me_b (k := 118) F2 hS rfl rfl
    have ef : mi_f h2 13962 = mi_f h 13962 := me_f (c := 13962) F2 hS rfl rfl
    rw [eb, ef, e0] at q6
    unfold gm_zs
    refine mt_grH q1 oku okn okk (hw _ rfl) ?_ ?_
    · intro c1 h4 s1' s2
      rw [if_neg (fun q => by have := q6.mpr q; omega)]
      have F4 : ab_Fr [(14047, 14048)] h h4 := F3.trans (s2.wide (fun c hc => by cases hc))
      refine ⟨_, me_comesx s1' ((me_f (c := 14028) F4 hS rfl rfl).trans hm) ⟨by decide, by decide⟩ (gx_R_fr0 R3 s2 q1 rfl), ?_⟩
      intro w h5 hw5 hq5
      obtain ⟨t1, t2, ⟨z2, rfl⟩, t3⟩ := hq5
      rw [e0] at t3
      refine mt_grI t1 oku okn okk (hw5 _ rfl) ?_
      intro h6 u1 u2
      refine ⟨rfl, u1, ((F4.wide (fun c hc => ab_swr_ok (by decide) hc)).trans (t2.wide (fun c hc => ab_swr_ok (by decide) hc))).trans (u2.wide (fun c hc => by cases hc)), ((me_f (c := 14034) u2 t1 rfl rfl).trans (me_f (c := 14034) t2 s1' rfl rfl)).trans (me_f (c := 14034) F4 hS rfl rfl), ((me_f (c := 14033) u2 t1 rfl rfl).trans (me_f (c := 14033) t2 s1' rfl rfl)).trans (me_f (c := 14033) F4 hS rfl rfl), ?_⟩
      have e44 : mi_f h6 14044 = mi_f h5 14044 := me_f (c := 14044) u2 t1 rfl rfl
      rcases t3 with ⟨x1, x2⟩ | ⟨x1, t, x2, x3⟩
      · exact Or.inl ⟨x1, e44.trans x2⟩
      · exact Or.inr ⟨e44.trans x1, t, x2, gx_R_fr0 x3 u2 t1 rfl⟩
    · intro c1
      rw [if_pos (q6.mp c1)]
      have hkw := q5 c1
      have hb := mx_arrL (a := 118) (n := 20) (lo := -65536) (hi := 1073741823) (ex := []) p1 rfl
      have hlt : zv.toInt ≤ 1073741823 := by
        obtain ⟨f, e1, e2⟩ := hb
        have := (e2 z.toNat (by omega)).2
        unfold mx_b at hkw
        rw [e1] at hkw
        rw [← hkw]
        exact this
      have hn6 : zn ≤ 6 := by
        rcases Int.lt_or_eq_of_le a3 with e | e
        · omega
        · have := a5 e
          omega
      refine ⟨by omega, fun h4 s1' s2 => ?_⟩
      have F4 : ab_Fr [(14047, 14048)] h h4 := F3.trans (s2.wide (fun c hc => by cases hc))
      have hs : ∀ k : Nat, zn = (k : Int) → ((Int64.ofNat 26) <<< ((Int32.ofInt (((5 : Int)) * zn)).toInt64 &&& 63)).toBitVec.toNat = 26 * 2 ^ (5 * k) := by
        intro k hk
        have hc : k = 1 ∨ k = 2 ∨ k = 3 ∨ k = 4 ∨ k = 5 ∨ k = 6 := by omega
        rw [hk]
        rcases hc with rfl | rfl | rfl | rfl | rfl | rfl <;> decide
      have key := gx_or av a4 (hs zn.toNat (by omega))
      have en : (zn + 1).toNat = zn.toNat + 1 := by omega
      have ev : ((v + 26 * 2 ^ (5 * zn.toNat) : Nat) : Int) = (v : Int) + 26 * 32 ^ zn.toNat := by
        rw [← gx_32]
        push_cast
        rfl
      have b5 : v + 26 * 2 ^ (5 * zn.toNat) < 2 ^ (5 * (zn + 1).toNat) := by
        rw [en, Nat.mul_add, Nat.pow_add]
        have := Nat.two_pow_pos (5 * zn.toNat)
        omega
      have b6 : zn + 1 = 7 → 2 ^ 30 ≤ v + 26 * 2 ^ (5 * zn.toNat) := by
        intro e
        have e6 : zn.toNat = 6 := by omega
        rw [e6]
        omega
      have := ih (zn + 1) _ (v + 26 * 2 ^ (5 * zn.toNat)) h4 s1 (by omega) (by omega) (by omega) key b5 b6 s1' F4 (gx_R_fr0 R3 s2 q1 rfl)
      rw [ev, en] at this
      exact this
end GX4
/-! the letters of a grown name, and grown, exactly -/
section GX5
theorem gm_ls_s (m k : Nat) (x : Int64) (v : Int) : gm_ls (m + 1) k x v = gm_ls m (k + 1) (gm_x x) (v + (1 + gm_v (gm_x x) 3) * 32 ^ k) := by rw [gm_ls]
theorem gm_ls_0 (k : Nat) (x : Int64) (v : Int) : gm_ls 0 k x v = (v, x) := by rw [gm_ls]
variable {h : sm_H} {d : Nat} {zu : Int}
theorem gr_letx (hS : ab_Sh sx_sk h) (hm : mi_f h 14028 = 1) (hu0 : 0 ≤ zu) (hu1 : zu < 60) {zn : Int} (hn0 : 1 ≤ zn) (hn1 : zn ≤ 3) : ∀ (j : Nat) (zk : Int) (zv : Int64) (v : Nat) (h1 : sm_H) (s1 : gm_S), zn - zk = (j : Int) → 0 ≤ zk → zv.toBitVec.toNat = v → v < 2 ^ (5 * zk.toNat) → ab_Sh sx_sk h1 → ab_Fr [(14047, 14048)] h h1 → gx_R h1 s1 → me_E (d + 1) 215 48 [some (.inr (.inr 109)), some (.inl zu), some (.inl zn), some (.inr (.inl zv)), none, some (.inl zk)] [] h1 (gl_Q h (gm_c 3 (gm_zs (gx_kw (mi_f h 13962) (mx_b h 118)) 7 zn.toNat (gm_ls j zk.toNat (gm_X s1) (v : Int)).1) ((gm_ls j zk.toNat (gm_X s1) (v : Int)).2, gm_F s1, gm_T s1, gm_D s1, gm_P s1))) := by
  intro j
  induction j with
  | zero =>
    intro zk zv v h1 s1 a1 a2 av a4 g1 g2 hR
    have oku : mi_in zu := ⟨by omega, by omega⟩
    have okn : mi_in zn := ⟨by omega, by omega⟩
    have ek : zk = zn := by omega
    subst ek
    rw [gm_ls_0]
    refine mt_grE g1 oku okn okn ?_ ?_
    · intro c1 h2 p1 p2
      exact gr_kwx hS hm hu0 hu1 okn 7 zk zv v h2 s1 (by omega) hn0 (by omega) av a4 (fun e => by omega) p1 (g2.trans (p2.wide (fun c hc => by cases hc))) (gx_R_fr0 hR p2 g1 rfl)
    · intro c1
      omega
  | succ j ih =>
    intro zk zv v h1 s1 a1 a2 av a4 g1 g2 hR
    have oku : mi_in zu := ⟨by omega, by omega⟩
    have okn : mi_in zn := ⟨by omega, by omega⟩
    have okk : mi_in zk := ⟨by omega, by omega⟩
    refine mt_grE g1 oku okn okk ?_ ?_
    · intro c1
      omega
    · intro c1 h2 p1 p2
      have R2 : gx_R h2 s1 := gx_R_fr0 hR p2 g1 rfl
      refine ⟨_, me_drawx p1 (by decide) (by decide), ?_⟩
      intro w h3 hw hq
      obtain ⟨q1, q2, q3, rfl⟩ := hq
      have R3 := gx_R_x R2 q2 p1 q3
      have F3 : ab_Fr [(14047, 14048)] h h3 := (g2.trans (p2.wide (fun c hc => by cases hc))).trans q2
      have ex : mx_l h2 14047 = gm_X s1 := R2.2.1
      rw [ex] at hw ⊢
      have hz := gm_vbt (gm_x (gm_X s1)) 3 (by decide) (by decide)
      rw [gm_ls_s]
      generalize hgz : gm_v (gm_x (gm_X s1)) 3 = z at hw hz ⊢
      generalize hgx : gm_x (gm_X s1) = y at R3 ⊢
      refine mt_grF q1 oku okn okk (hw _ rfl) ?_
      refine ⟨by omega, fun h4 s1' s2 => ?_⟩
      have F4 : ab_Fr [(14047, 14048)] h h4 := F3.trans (s2.wide (fun c hc => by cases hc))
      have hz3 : z = 0 ∨ z = 1 ∨ z = 2 := by omega
      have hk3 : zk = 0 ∨ zk = 1 ∨ zk = 2 := by omega
      have hs : ((Int64.ofNat 1 + (Int32.ofInt z).toInt64) <<< ((Int32.ofInt (((5 : Int)) * zk)).toInt64 &&& 63)).toBitVec.toNat = (1 + z).toNat * 2 ^ (5 * zk.toNat) := by
        rcases hk3 with rfl | rfl | rfl <;> rcases hz3 with rfl | rfl | rfl <;> decide
      have key := gx_or av a4 hs
      have en : (zk + 1).toNat = zk.toNat + 1 := by omega
      have b5 : v + (1 + z).toNat * 2 ^ (5 * zk.toNat) < 2 ^ (5 * (zk + 1).toNat) := by
        rw [en, Nat.mul_add, Nat.pow_add]
        have := Nat.two_pow_pos (5 * zk.toNat)
        have : (1 + z).toNat * 2 ^ (5 * zk.toNat) ≤ 3 * 2 ^ (5 * zk.toNat) := Nat.mul_le_mul_right _ (by omega)
        omega
      have ev : ((v + (1 + z).toNat * 2 ^ (5 * zk.toNat) : Nat) : Int) = (v : Int) + (1 + z) * 32 ^ zk.toNat := by
        rw [← gx_32, Int.natCast_add, Int.natCast_mul, Int.toNat_of_nonneg (by omega)]
      have := ih (zk + 1) _ (v + (1 + z).toNat * 2 ^ (5 * zk.toNat)) h4 (y, gm_F s1, gm_T s1, gm_D s1, gm_P s1) (by omega) (by omega) key b5 s1' F4 (gx_R_fr0 R3 s2 q1 rfl)
      rw [ev, en, gm_X_mk, gm_F_mk, gm_T_mk, gm_D_mk, gm_P_mk] at this
      exact this
end GX5
/-! grown, exactly -/
section GX6
/-- what a leaf gives -/
def gm_lf (kw : Int → Bool) (o : Int) (s : gm_S) : Option gm_S :=
  if o = 1 then gm_c 2 (gm_v (gm_x (gm_X s)) 10000) (gm_x (gm_X s), gm_F s, gm_T s, gm_D s, gm_P s)
  else if o = 2 then gm_c 3 (gm_nm kw (gm_X s)).1 ((gm_nm kw (gm_X s)).2, gm_F s, gm_T s, gm_D s, gm_P s)
  else some s
theorem gm_lf_1 {kw : Int → Bool} {o : Int} {s : gm_S} {y : Int64} {z : Int} (ho : o = 1) (hy : gm_x (gm_X s) = y) (hz : gm_v y 10000 = z) : gm_lf kw o s = gm_c 2 z (y, gm_F s, gm_T s, gm_D s, gm_P s) := by
  unfold gm_lf
  rw [if_pos ho, hy, hz]
theorem gm_nm_e {kw : Int → Bool} {x y : Int64} {z : Int} (hy : gm_x x = y) (hz : gm_v y 3 = z) : gm_nm kw x = (gm_zs kw 7 (1 + z).toNat (gm_ls (1 + z).toNat 0 y 0).1, (gm_ls (1 + z).toNat 0 y 0).2) := by
  unfold gm_nm
  rw [hy, hz]
theorem gm_lf_2 {kw : Int → Bool} {o : Int} {s : gm_S} {y : Int64} {z : Int} (ho : o = 2) (hy : gm_x (gm_X s) = y) (hz : gm_v y 3 = z) : gm_lf kw o s = gm_c 3 (gm_zs kw 7 (1 + z).toNat (gm_ls (1 + z).toNat 0 y 0).1) ((gm_ls (1 + z).toNat 0 y 0).2, gm_F s, gm_T s, gm_D s, gm_P s) := by
  unfold gm_lf
  rw [if_neg (by omega), if_pos ho, gm_nm_e hy hz]
theorem gm_lf_o {kw : Int → Bool} {o : Int} {s : gm_S} (h1 : o ≠ 1) (h2 : o ≠ 2) : gm_lf kw o s = some s := by
  unfold gm_lf
  rw [if_neg h1, if_neg h2]
variable {h : sm_H} {d : Nat} {zu : Int} {s : gm_S}
theorem gl_node {kd : Int} {zv : Int64} {h3 h4 h5 : sm_H} {s1 : gm_S} (hS : ab_Sh sx_sk h) (F3 : ab_Fr [(14047, 14048)] h h3) (r1 : ab_Sh sx_sk h3) (t1 : ab_Sh sx_sk h4) (t2 : ab_Fr [(14016, 14017), (14044, 14045), (20224, 20225), (20352, 20353), (20480, 20481), (20864, 20865)] h3 h4) (t3 : (gm_c kd zv.toInt s1 = none ∧ mi_f h4 14044 = 1) ∨ (mi_f h4 14044 = 0 ∧ ∃ t, gm_c kd zv.toInt s1 = some t ∧ gx_R h4 t)) (u1 : ab_Sh sx_sk h5) (u2 : ab_Fr [] h4 h5) : gl_Q h (gm_c kd zv.toInt s1) none h5 := by
  refine ⟨rfl, u1, ((F3.wide (fun c hc => ab_swr_ok (by decide) hc)).trans (t2.wide (fun c hc => ab_swr_ok (by decide) hc))).trans (u2.wide (fun c hc => by cases hc)), ((me_f (c := 14034) u2 t1 rfl rfl).trans (me_f (c := 14034) t2 r1 rfl rfl)).trans (me_f (c := 14034) F3 hS rfl rfl), ((me_f (c := 14033) u2 t1 rfl rfl).trans (me_f (c := 14033) t2 r1 rfl rfl)).trans (me_f (c := 14033) F3 hS rfl rfl), ?_⟩
  have e44 : mi_f h5 14044 = mi_f h4 14044 := me_f (c := 14044) u2 t1 rfl rfl
  rcases t3 with ⟨x1, x2⟩ | ⟨x1, t, x2, x3⟩
  · exact Or.inl ⟨x1, e44.trans x2⟩
  · exact Or.inr ⟨e44.trans x1, t, x2, gx_R_fr0 x3 u2 t1 rfl⟩
theorem me_grownx (hS : ab_Sh sx_sk h) (hm : mi_f h 14028 = 1) (hu0 : 0 ≤ zu) (hu1 : zu < 60) (hp : mi_f h 14044 = 0) (hR : gx_R h s) : me_E (d + 1) 215 0 [some (.inr (.inr 109)), some (.inl zu), none, none, none, none] [] h (gl_Q h (gm_lf (gx_kw (mi_f h 13962) (mx_b h 118)) (mi_a h 119 zu.toNat) s)) := by
  have ok : mi_in zu := ⟨by omega, by omega⟩
  obtain ⟨y, hy⟩ : ∃ y, gm_x (gm_X s) = y := ⟨_, rfl⟩
  refine mt_grA hS ok ?_ ?_ ?_
  · intro c1 c2
    obtain ⟨z, hz⟩ : ∃ z, gm_v y 3 = z := ⟨_, rfl⟩
    rw [gm_lf_2 c2 hy hz]
    have hzb := gm_vbt y 3 (by decide) (by decide)
    rw [hz] at hzb
    refine ⟨by omega, fun h1 g1 g2 => ⟨_, me_drawx g1 (by decide) (by decide), ?_⟩⟩
    intro w h2 hw hq
    obtain ⟨q1, q2, q3, q4⟩ := hq
    have R1 : gx_R h1 s := gx_R_fr0 hR g2 hS rfl
    have R2 := gx_R_x R1 q2 g1 q3
    have ex : mx_l h1 14047 = gm_X s := R1.2.1
    rw [ex, hy, hz] at q4
    rw [hy] at R2
    subst q4
    refine mt_grD q1 ok (hw _ rfl) ⟨by decide, by decide⟩ ?_
    refine ⟨by omega, fun h3 r1 r2 => ?_⟩
    have key := gr_letx (d := d) hS hm hu0 hu1 (zn := 1 + z) (by omega) (by omega) (1 + z).toNat 0 (Int64.ofNat 0) 0 h3 (y, gm_F s, gm_T s, gm_D s, gm_P s) (by omega) (by omega) (by decide) (by decide) r1 (((g2.wide (fun c hc => by cases hc)).trans q2).trans (r2.wide (fun c hc => by cases hc))) (gx_R_fr0 R2 r2 q1 rfl)
    have e0 : (Int.toNat 0) = 0 := rfl
    have e1 : ((0 : Nat) : Int) = 0 := rfl
    rw [gm_X_mk, gm_F_mk, gm_T_mk, gm_D_mk, gm_P_mk, e0, e1] at key
    exact key
  · intro c1 c2
    refine ⟨by omega, fun h1 g1 g2 => ?_⟩
    rw [gm_lf_o c1 c2]
    exact ⟨rfl, g1, g2.wide (fun c hc => by cases hc), me_f (c := 14034) g2 hS rfl rfl, me_f (c := 14033) g2 hS rfl rfl, Or.inr ⟨(me_f (c := 14044) g2 hS rfl rfl).trans hp, s, rfl, gx_R_fr0 hR g2 hS rfl⟩⟩
  · intro c1
    obtain ⟨z, hz⟩ : ∃ z, gm_v y 10000 = z := ⟨_, rfl⟩
    rw [gm_lf_1 c1 hy hz]
    have hzb := gm_vbt y 10000 (by decide) (by decide)
    rw [hz] at hzb
    refine ⟨by omega, fun h1 g1 g2 => ⟨_, me_drawx g1 (by decide) (by decide), ?_⟩⟩
    intro w h2 hw hq
    obtain ⟨q1, q2, q3, q4⟩ := hq
    have R1 : gx_R h1 s := gx_R_fr0 hR g2 hS rfl
    have R2 := gx_R_x R1 q2 g1 q3
    have ex : mx_l h1 14047 = gm_X s := R1.2.1
    rw [ex, hy, hz] at q4
    rw [hy] at R2
    subst q4
    refine mt_grB q1 ok (hw _ rfl) ⟨by decide, by decide⟩ ?_
    intro h3 r1 r2
    have F3 : ab_Fr [(14047, 14048)] h h3 := ((g2.wide (fun c hc => by cases hc)).trans q2).trans (r2.wide (fun c hc => by cases hc))
    have ez : ((Int32.ofInt z).toInt64).toInt = z := by rw [Int32.toInt_toInt64, mi_ti ⟨by omega, by omega⟩]
    refine ⟨_, me_comesx r1 ((me_f (c := 14028) F3 hS rfl rfl).trans hm) ⟨by decide, by decide⟩ (gx_R_fr0 R2 r2 q1 rfl), ?_⟩
    intro w h4 hw4 hq4
    obtain ⟨t1, t2, ⟨z2, rfl⟩, t3⟩ := hq4
    have e119 : mi_a h4 119 zu.toNat = mi_a h 119 zu.toNat := (me_a (k := 119) t2 r1 rfl rfl).trans (me_a (k := 119) F3 hS rfl rfl)
    refine mt_grC t1 ok (hw4 _ rfl) ?_ ?_
    · intro c2
      exfalso; omega
    · intro c2
      refine ⟨by omega, fun h5 u1 u2 => ?_⟩
      have := gl_node hS F3 r1 t1 t2 t3 u1 u2
      rw [ez] at this
      exact this
end GX6
/-! single, again, unit of the reference, exactly -/
def gx_w (wr : List (Nat × Nat)) : Bool := ab_in wr 14016 || ab_in wr 20224 || ab_in wr 20352 || ab_in wr 20480 || ab_in wr 20864
def gx_w2 (wr : List (Nat × Nat)) : Bool := ab_in wr 21504 || ab_in wr 21632
def gx_w3 (wr : List (Nat × Nat)) : Bool := ab_in wr 14047 || ab_in wr 14035 || ab_in wr 14030
theorem gx_R_fr {h h' : sm_H} {s : gm_S} {wr : List (Nat × Nat)} (hR : gx_R h s) (hF : ab_Fr wr h h') (hS : ab_Sh sx_sk h) (w1 : gx_w wr = false) (w2 : gx_w2 wr = false) (w3 : gx_w3 wr = false) (w4 : ab_in wr 14031 = false) : gx_R h' s := by
  obtain ⟨r1, r2, r3, r4, r5, r6⟩ := hR
  unfold gx_w3 at w3
  simp only [Bool.or_eq_false_iff] at w3
  exact ⟨gx_T_fr r1 hF hS w1, (me_l (c := 14047) hF hS rfl w3.1.1).trans r2, (me_f (c := 14035) hF hS rfl w3.1.2).trans r3, (me_f (c := 14031) hF hS rfl w4).trans r4, (me_f (c := 14030) hF hS rfl w3.2).trans r5, gx_P_fr hF hS w2 _ r6⟩
/-- one more is open -/
theorem gx_R_d {h h' : sm_H} {s : gm_S} {wr : List (Nat × Nat)} (hR : gx_R h s) (hF : ab_Fr wr h h') (hS : ab_Sh sx_sk h) (w1 : gx_w wr = false) (w2 : gx_w2 wr = false) (w3 : gx_w3 wr = false) (hD0 : -1000 ≤ gm_D s) (hD1 : gm_D s ≤ 999) (e : mi_f h' 14031 = (Int32.ofInt (mi_f h 14031) + Int32.ofInt (1 : Int)).toInt) : gx_R h' (gm_d s) := by
  obtain ⟨r1, r2, r3, r4, r5, r6⟩ := hR
  unfold gx_w3 at w3
  simp only [Bool.or_eq_false_iff] at w3
  unfold gm_d gx_R
  rw [gm_T_mk, gm_X_mk, gm_F_mk, gm_D_mk, gm_P_mk]
  refine ⟨gx_T_fr r1 hF hS w1, (me_l (c := 14047) hF hS rfl w3.1.1).trans r2, (me_f (c := 14035) hF hS rfl w3.1.2).trans r3, ?_, (me_f (c := 14030) hF hS rfl w3.2).trans r5, gx_P_fr hF hS w2 _ r6⟩
  rw [e, r4]
  exact (gx_wrap hD0 (by omega)).2
def gx_k (h : sm_H) : Int → Bool := gx_kw (mi_f h 13962) (mx_b h 118)
theorem gx_k_fr {h h' : sm_H} {wr : List (Nat × Nat)} (hF : ab_Fr wr h h') (hS : ab_Sh sx_sk h) (w1 : ab_in wr 13962 = false) (w2 : ab_in wr 15104 = false) : gx_k h' = gx_k h := by
  have eb : mx_b h' 118 = mx_b h 118 := funext fun i => me_b (k := 118) hF hS rfl w2
  have ef : mi_f h' 13962 = mi_f h 13962 := me_f (c := 13962) hF hS rfl w1
  unfold gx_k
  rw [eb, ef]
/-- what the steps of the growing walk ask for -/
def gx_in (h : sm_H) (s : gm_S) : Prop := ab_Sh sx_sk h ∧ mi_f h 14028 = 1 ∧ mi_f h 14044 = 0 ∧ 0 ≤ mi_f h 14029 ∧ mi_f h 14032 = wk_ul (wk_stk h) ∧ 0 ≤ mi_f h 14032 ∧ mi_f h 14032 ≤ 12 ∧ gx_R h s ∧ (-1000 ≤ gm_F s ∧ gm_F s ≤ 1000) ∧ -1000 ≤ gm_D s ∧ gm_D s ≤ 998
section GX7
variable {h : sm_H} {d : Nat} {zu : Int} {s : gm_S}
theorem gx_of_gl {h' : sm_H} {m : Option gm_S} (hi : gx_in h s) (hq : gl_Q h m none h') : gx_Q h (m.map (fun t => (wk_stk h, t))) none h' := by
  obtain ⟨-, q1, q2, q3, q4, q5⟩ := hq
  obtain ⟨i1, i2, i3, i4, i5, i6, i7, -⟩ := hi
  refine ⟨rfl, q1, q2.wide (fun c hc => ab_swr_ok (by decide) hc), q3, q4, ?_⟩
  rcases q5 with ⟨e1, e2⟩ | ⟨e1, t, e2, e3⟩
  · exact Or.inl ⟨by rw [e1]; rfl, e2⟩
  · exact Or.inr ⟨e1, (wk_stk h, t), by rw [e2]; rfl, wk_stk_fr q2 i1 rfl, e3, (me_f (c := 14032) q2 i1 rfl rfl).trans i5⟩
theorem gm_sg_lf {g : wk_g} {kw : Int → Bool} {u : Int} {r : List wk_E} (n9 : g 119 u.toNat ≠ 9) (n10 : g 119 u.toNat ≠ 10) : gm_sg g kw u r s = (gm_lf kw (g 119 u.toNat) s).map (fun t => (r, t)) := by
  unfold gm_sg gm_lf
  rw [if_neg n9, if_neg n10]
  by_cases c1 : g 119 u.toNat = 1
  · rw [if_pos c1, if_pos c1]
  · rw [if_neg c1, if_neg c1]
    by_cases c2 : g 119 u.toNat = 2
    · rw [if_pos c2, if_pos c2]
    · rw [if_neg c2, if_neg c2]
      rfl
theorem sx_grown (hi : gx_in h s) (hu : wk_us h zu) (n9 : mi_a h 119 zu.toNat ≠ 9) (n10 : mi_a h 119 zu.toNat ≠ 10) : ∃ Q1, me_E (d + 4) 215 0 [some (.inr (.inr 109)), some (.inl zu), none, none, none, none] [] h Q1 ∧ ∀ w h', (∀ x, w = some x → mi_ok x) → Q1 w h' → me_E (d + 5) 213 121 [some (.inr (.inr 109)), some (.inl zu)] (mi_back w []) h' (gx_Q h (gm_sg (mi_a h) (gx_k h) zu (wk_stk h) s)) := by
  have ok : mi_in zu := ⟨by have := hu.1; omega, by have := hu.2.1; omega⟩
  refine ⟨_, me_grownx (d := d + 3) (s := s) hi.1 hi.2.1 hu.1 hu.2.1 hi.2.2.1 hi.2.2.2.2.2.2.2.1, ?_⟩
  intro w h' hw hq
  have e := hq.1
  subst e
  have q1 := hq.2.1
  refine mt_sr121 q1 ok ?_
  intro h3 r1 r2
  have e3 := me_nil r2
  subst e3
  rw [gm_sg_lf n9 n10]
  exact gx_of_gl hi hq
theorem sx_lay (hi : gx_in h s) (hu : wk_us h zu) (n1 : mi_a h 119 zu.toNat ≠ 1) (n2 : mi_a h 119 zu.toNat ≠ 2) (n9 : mi_a h 119 zu.toNat ≠ 9) (n10 : mi_a h 119 zu.toNat ≠ 10) : ∃ Q1, me_E (d + 4) 222 0 [some (.inr (.inr 109)), some (.inl (mi_a h 119 zu.toNat))] [] h Q1 ∧ ∀ w h', (∀ x, w = some x → mi_ok x) → Q1 w h' → me_E (d + 5) 213 142 [some (.inr (.inr 109)), some (.inl zu)] (mi_back w []) h' (gx_Q h (gm_sg (mi_a h) (gx_k h) zu (wk_stk h) s)) := by
  have ok : mi_in zu := ⟨by have := hu.1; omega, by have := hu.2.1; omega⟩
  obtain ⟨i1, i2, i3, i4, i5, i6, i7, i8, -⟩ := hi
  refine ⟨_, me_lay i1 (mi_inT _), ?_⟩
  intro w h' hw hq
  obtain ⟨rfl, q1, q2⟩ := hq
  refine mt_sr142 q1 ok ?_
  intro h3 r1 r2
  have e3 := me_nil r2
  subst e3
  rw [gm_sg_lf n9 n10, gm_lf_o n1 n2]
  exact ⟨rfl, q1, q2.wide (fun c hc => ab_swr_ok (by decide) hc), me_f (c := 14034) q2 i1 rfl rfl, me_f (c := 14033) q2 i1 rfl rfl, Or.inr ⟨(me_f (c := 14044) q2 i1 rfl rfl).trans i3, (wk_stk h, s), rfl, wk_stk_fr q2 i1 rfl, gx_R_fr i8 q2 i1 rfl rfl rfl rfl, (me_f (c := 14032) q2 i1 rfl rfl).trans i5⟩⟩
theorem sx_enter (hi : gx_in h s) (hu : wk_us h zu) (ht : mi_f h 14029 ≤ 2990) (h9 : mi_a h 119 zu.toNat = 9) : ∃ Q1, me_E (d + 4) 207 0 [some (.inr (.inr 109)), some (.inl (mi_a h 115 (mi_a h 120 zu.toNat).toNat))] [] h Q1 ∧ ∀ w h', (∀ x, w = some x → mi_ok x) → Q1 w h' → me_E (d + 5) 213 75 [some (.inr (.inr 109)), some (.inl zu)] (mi_back w []) h' (gx_Q h (gm_sg (mi_a h) (gx_k h) zu (wk_stk h) s)) := by
  have ok : mi_in zu := ⟨by have := hu.1; omega, by have := hu.2.1; omega⟩
  obtain ⟨i1, i2, i3, i4, i5, i6, i7, i8, i9, i10, i11⟩ := hi
  obtain ⟨u1, u2, u3, u4⟩ := hu.2.2.1 h9
  refine ⟨_, me_enterx (d := d + 2) (s := s) i1 i2 i4 ht i5 i7 i6 u3 u4 i8 i9.1 i9.2 i10 (by omega), ?_⟩
  intro w h' hw hq
  have e := hq.1
  subst e
  have q1 := hq.2.1
  refine mt_sr75 q1 ok ?_
  intro h3 r1 r2
  have e3 := me_nil r2
  subst e3
  have e : gm_sg (mi_a h) (gx_k h) zu (wk_stk h) s = gm_en (mi_a h) (mi_a h 115 (mi_a h 120 zu.toNat).toNat) (wk_stk h) s := by
    unfold gm_sg
    rw [if_pos h9]
  rw [e]
  exact hq
theorem me_singlex (hi : gx_in h s) (hu : wk_us h zu) (ht : mi_f h 14029 ≤ 2990) : me_E (d + 5) 213 0 [some (.inr (.inr 109)), some (.inl zu)] [] h (gx_Q h (gm_sg (mi_a h) (gx_k h) zu (wk_stk h) s)) := by
  obtain ⟨i1, i2, i3, i4, i5, i6, i7, i8, i9, i10, i11⟩ := id hi
  have hu0 := hu.1
  have hu1 := hu.2.1
  have ok : mi_in zu := ⟨by omega, by omega⟩
  refine mt_sg i1 ok ?_ ?_ ?_ ?_ ?_ ?_ ?_ ?_ ?_ ?_ ?_ ?_ ?_ ?_ ?_ ?_ ?_
  · intro b c1 c2 c3
    exact absurd i2 c3
  · intro b c1 c2 c3
    refine ⟨by omega, fun h1 g1 g2 => ?_⟩
    have e3 := me_nil g2
    subst e3
    exact sx_grown hi hu (by omega) (by omega)
  · intro b c1 c2
    exfalso; omega
  · intro b c1 c2 c3
    exact absurd i2 c3
  · intro b c1 c2 c3
    refine ⟨by omega, fun h1 g1 g2 => ?_⟩
    have e3 := me_nil g2
    subst e3
    exact sx_grown hi hu (by omega) (by omega)
  · intro b c1 c2
    exfalso; omega
  · intro c1
    refine ⟨by omega, fun h1 g1 g2 => ?_⟩
    have e3 := me_nil g2
    subst e3
    exact sx_lay hi hu (by omega) (by omega) (by omega) (by omega)
  · intro c1
    refine ⟨by omega, fun h1 g1 g2 => ?_⟩
    have e3 := me_nil g2
    subst e3
    exact sx_lay hi hu (by omega) (by omega) (by omega) (by omega)
  · intro c1
    refine ⟨by omega, fun h1 g1 g2 => ?_⟩
    have e3 := me_nil g2
    subst e3
    exact sx_lay hi hu (by omega) (by omega) (by omega) (by omega)
  · intro c1
    refine ⟨by omega, fun h1 g1 g2 => ?_⟩
    have e3 := me_nil g2
    subst e3
    exact sx_lay hi hu (by omega) (by omega) (by omega) (by omega)
  · intro c1
    refine ⟨by omega, fun h1 g1 g2 => ?_⟩
    have e3 := me_nil g2
    subst e3
    exact sx_lay hi hu (by omega) (by omega) (by omega) (by omega)
  · intro b c1 c2 c3
    exact absurd i2 c3
  · intro b c1 c2 c3
    refine ⟨by omega, fun h1 g1 g2 => ?_⟩
    have e3 := me_nil g2
    subst e3
    exact sx_grown hi hu (by omega) (by omega)
  · intro b c1 c2
    exfalso; omega
  · intro c1
    have u := hu.2.2.1 (by omega)
    refine ⟨by omega, fun h1 g1 g2 => ?_⟩
    have e3 := me_nil g2
    subst e3
    exact sx_enter hi hu ht (by omega)
  · intro b c1
    refine ⟨by omega, fun h1 g1 g2 a5 a6 a7 g3 => ?_⟩
    have h10 : mi_a h 119 zu.toNat = 10 := by omega
    have n9 : ¬ mi_a h 119 zu.toNat = 9 := by omega
    have est := wk_push1 i4 g2 a5 a6 a7
    have e : gm_sg (mi_a h) (gx_k h) zu (wk_stk h) s = some ((1, mi_a h 120 zu.toNat, 0) :: wk_stk h, s) := by
      unfold gm_sg
      rw [if_neg n9, if_pos h10]
    rw [e]
    refine ⟨rfl, g1, g3.wide (fun c hc => ab_swr_ok (by decide) hc), me_f (c := 14034) g3 i1 rfl rfl, me_f (c := 14033) g3 i1 rfl rfl, Or.inr ⟨(me_f (c := 14044) g3 i1 rfl rfl).trans i3, ((1, mi_a h 120 zu.toNat, 0) :: wk_stk h, s), rfl, est, gx_R_fr i8 g3 i1 rfl rfl rfl rfl, ?_⟩⟩
    rw [me_f (c := 14032) g3 i1 rfl rfl, i5]
    exact (wk_ul_c (by decide)).symm
  · intro c1
    refine ⟨by omega, fun h1 g1 g2 => ?_⟩
    have e3 := me_nil g2
    subst e3
    exact sx_lay hi hu (by omega) (by omega) (by omega) (by omega)
/-- the same description gives the same -/
theorem gm_en_g {g g' : wk_g} (hg : wk_gc g g') {i : Int} {r : List wk_E} : gm_en g' i r s = gm_en g i r s := by
  unfold gm_en
  rw [hg 114 (by decide)]
theorem gm_sg_g {g g' : wk_g} (hg : wk_gc g g') {kw : Int → Bool} {u : Int} {r : List wk_E} : gm_sg g' kw u r s = gm_sg g kw u r s := by
  unfold gm_sg
  rw [hg 119 (by decide), hg 120 (by decide), hg 115 (by decide), gm_en_g hg]
def gm_ag (g : wk_g) (kw : Int → Bool) (u a : Int) (r : List wk_E) (s : gm_S) : Option gm_C := if 0 < a then gm_sg g kw u ((5, u, a - 1) :: r) s else some (r, s)
theorem gx_Q_fr {h1 h' : sm_H} {m : Option gm_C} {w : Option mi_V} (hS : ab_Sh sx_sk h) (hF : ab_Fr wr_W1 h h1) (e34 : mi_f h1 14034 = mi_f h 14034) (e33 : mi_f h1 14033 = mi_f h 14033) (hq : gx_Q h1 m w h') : gx_Q h m w h' := by
  obtain ⟨q0, q1, q2, q3, q4, q5⟩ := hq
  exact ⟨q0, q1, hF.trans q2, q3.trans e34, q4.trans e33, q5⟩
theorem me_againx {za : Int} (hi : gx_in h s) (hu : wk_us h zu) (ht : mi_f h 14029 ≤ 2985) (hza : mi_in za) : me_E (d + 6) 227 0 [some (.inr (.inr 109)), some (.inl zu), some (.inl za), none] [] h (gx_Q h (gm_ag (mi_a h) (gx_k h) zu za (wk_stk h) s)) := by
  obtain ⟨i1, i2, i3, i4, i5, i6, i7, i8, i9, i10, i11⟩ := id hi
  have hu0 := hu.1
  have hu1 := hu.2.1
  have ok : mi_in zu := ⟨by omega, by omega⟩
  have hzb := hza.1
  have hzc := hza.2
  refine mt_agA i1 ok hza ?_ ?_ ?_
  · intro b c1 c2 h1 g1 g2
    have e3 := me_nil g2
    subst e3
    unfold gm_ag
    rw [if_neg (by omega)]
    exact ⟨rfl, g1, ab_Fr.refl, rfl, rfl, Or.inr ⟨i3, (wk_stk h1, s), rfl, rfl, i8, i5⟩⟩
  · intro b1 b2 c1 c2
    refine ⟨by omega, fun h1 g1 g2 a5 a6 a7 g3 => ?_⟩
    have est := wk_push1 i4 g2 a5 a6 a7
    have hg : wk_gc (mi_a h) (mi_a h1) := wk_gc_fr g3 i1 rfl
    have hk : gx_k h1 = gx_k h := gx_k_fr g3 i1 rfl rfl
    have e32 : mi_f h1 14032 = mi_f h 14032 := me_f (c := 14032) g3 i1 rfl rfl
    have hi1 : gx_in h1 s := ⟨g1, (me_f (c := 14028) g3 i1 rfl rfl).trans i2, (me_f (c := 14044) g3 i1 rfl rfl).trans i3, by omega, by rw [est, wk_ul_c (by decide), e32]; exact i5, by omega, by omega, gx_R_fr i8 g3 i1 rfl rfl rfl rfl, i9, i10, i11⟩
    refine ⟨_, me_singlex (d := d) hi1 (wk_us_g hg hu) (by omega), ?_⟩
    intro w h2 hw hq
    have e := hq.1
    subst e
    refine mt_agC hq.2.1 ok hza ⟨by decide, by decide⟩ ?_
    intro h3 r1 r2
    have e3 := me_nil r2
    subst e3
    unfold gm_ag
    rw [if_pos c2]
    rw [gm_sg_g hg, hk, est] at hq
    exact gx_Q_fr i1 (g3.wide (fun c hc => ab_swr_ok (by decide) hc)) (me_f (c := 14034) g3 i1 rfl rfl) (me_f (c := 14033) g3 i1 rfl rfl) hq
  · intro b c1
    exfalso; omega
end GX7
/-! unit of the reference, exactly -/
/-- a unit, once its pair is open -/
def gm_u (g : wk_g) (kw : Int → Bool) (u : Int) (r : List wk_E) (s : gm_S) : Option gm_C :=
  if g 122 u.toNat = 1 then (gm_c 5 (gm_n 3 s) (gm_y s)).map (fun t => ((5, u, gm_n 3 s) :: (2, 0, 0) :: r, gm_d t))
  else if g 122 u.toNat = 2 then (gm_c 6 (gm_n 2 s) (gm_y s)).bind (fun t => if 0 < gm_n 2 s then gm_sg g kw u ((2, 0, 0) :: r) (gm_d t) else some ((2, 0, 0) :: r, gm_d t))
  else gm_sg g kw u r s
theorem gm_n_op {o n : Int} {s : gm_S} : gm_n n (gm_op o s) = gm_n n s := by
  unfold gm_op
  by_cases c : o = 1
  · rw [if_pos c]
    unfold gm_n
    rw [gm_F_mk, gm_X_mk]
  · rw [if_neg c]
theorem gm_st_0 {g : wk_g} {kw : Int → Bool} {u o : Int} {r : List wk_E} {s : gm_S} : gm_st g kw (0, u, o) r s = gm_u g kw u r (gm_op o s) := by
  unfold gm_st gm_u
  rw [if_pos rfl, gm_n_op, gm_n_op]
theorem gm_y_0 {s : gm_S} (hf : gm_F s < 0) : gm_y s = s := by
  unfold gm_y
  rw [if_pos hf]
  rfl
theorem gm_y_1 {s : gm_S} {y : Int64} (hf : ¬ gm_F s < 0) (hy : gm_x (gm_X s) = y) : gm_y s = (y, gm_F s, gm_T s, gm_D s, gm_P s) := by
  unfold gm_y
  rw [if_neg hf, hy]
theorem gm_n_0 {n : Int} {s : gm_S} (hf : gm_F s < 0) : gm_n n s = 0 := by
  unfold gm_n
  rw [if_pos hf]
theorem gm_n_1 {n z : Int} {s : gm_S} {y : Int64} (hf : ¬ gm_F s < 0) (hy : gm_x (gm_X s) = y) (hz : gm_v y n = z) : gm_n n s = z := by
  unfold gm_n
  rw [if_neg hf, hy, hz]
theorem gm_c_t {k v : Int} {s t : gm_S} (h : gm_c k v s = some t) : gm_X t = gm_X s ∧ gm_F t = gm_F s ∧ gm_T t = gm_T s ++ [(k + 10 * ((gm_T s).length : Int), v, gm_D s)] ∧ gm_D t = gm_D s ∧ gm_P t = gm_P s := by
  unfold gm_c at h
  split at h
  · cases h
  · injection h with h
    subst h
    rw [gm_X_mk, gm_F_mk, gm_T_mk, gm_D_mk, gm_P_mk]
    exact ⟨rfl, rfl, rfl, rfl, rfl⟩
section GX8
variable {h : sm_H} {d : Nat} {zu zo : Int} {s : gm_S}
/-- behind the number, of a many -/
theorem un83x {zn : Int} {h1 : sm_H} {s1 : gm_S} (hi : gx_in h s) (hu0 : 0 ≤ zu) (hu1 : zu < 60) (ht : mi_f h 14029 ≤ 2985) (oo : mi_in zo) (on : mi_in zn) (g1 : ab_Sh sx_sk h1) (g2 : ab_Fr [(14047, 14048)] h h1) (hR1 : gx_R h1 s1) (eD : gm_D s1 = gm_D s) : me_E (d + 6) 210 83 [some (.inr (.inr 109)), some (.inl zu), some (.inl zo), none, none] [.inl zn] h1 (gx_Q h ((gm_c 5 zn s1).map (fun t => ((5, zu, zn) :: (2, 0, 0) :: wk_stk h, gm_d t)))) := by
  obtain ⟨i1, i2, i3, i4, i5, i6, i7, i8, i9, i10, i11⟩ := hi
  have ok : mi_in zu := ⟨by omega, by omega⟩
  have ez : ((Int32.ofInt zn).toInt64).toInt = zn := by rw [Int32.toInt_toInt64, mi_ti on]
  refine mt_unD g1 ok oo on ?_
  intro h2 p1 p2
  have e2 := me_nil p2
  subst e2
  refine ⟨_, me_comesx g1 ((me_f (c := 14028) g2 i1 rfl rfl).trans i2) ⟨by decide, by decide⟩ hR1, ?_⟩
  intro w h3 hw3 hq
  obtain ⟨q1, q2, ⟨z, rfl⟩, q3⟩ := hq
  rw [ez] at q3
  have k29 : mi_f h3 14029 = mi_f h 14029 := (me_f (c := 14029) q2 g1 rfl rfl).trans (me_f (c := 14029) g2 i1 rfl rfl)
  have k32 : mi_f h3 14032 = mi_f h 14032 := (me_f (c := 14032) q2 g1 rfl rfl).trans (me_f (c := 14032) g2 i1 rfl rfl)
  have k28 : mi_f h3 14028 = 1 := ((me_f (c := 14028) q2 g1 rfl rfl).trans (me_f (c := 14028) g2 i1 rfl rfl)).trans i2
  have kst : wk_stk h3 = wk_stk h := (wk_stk_fr q2 g1 rfl).trans (wk_stk_fr g2 i1 rfl)
  refine mt_unE q1 ok oo on (hw3 _ rfl) ?_ ?_
  · intro b1 b2 c1
    refine ⟨by omega, fun h4 r1 r2 r3 a5 a6 a7 r4 => ?_⟩
    have hF : ab_Fr wr_W1 h h4 := ((g2.wide (fun c hc => ab_swr_ok (by decide) hc)).trans (q2.wide (fun c hc => ab_swr_ok (by decide) hc))).trans (r4.wide (fun c hc => ab_swr_ok (by decide) hc))
    have l44 : mi_f h4 14044 = mi_f h3 14044 := me_f (c := 14044) r4 q1 rfl rfl
    refine ⟨rfl, r1, hF, ((me_f (c := 14034) r4 q1 rfl rfl).trans (me_f (c := 14034) q2 g1 rfl rfl)).trans (me_f (c := 14034) g2 i1 rfl rfl), ((me_f (c := 14033) r4 q1 rfl rfl).trans (me_f (c := 14033) q2 g1 rfl rfl)).trans (me_f (c := 14033) g2 i1 rfl rfl), ?_⟩
    rcases q3 with ⟨e1, e2⟩ | ⟨e1, t, e2, e3⟩
    · exact Or.inl ⟨by rw [e1]; rfl, l44.trans e2⟩
    · have eT := (gm_c_t e2).2.2.2.1
      refine Or.inr ⟨l44.trans e1, ((5, zu, zn) :: (2, 0, 0) :: wk_stk h, gm_d t), by rw [e2]; rfl, ?_, gx_R_d e3 r4 q1 rfl rfl rfl (by omega) (by omega) r3, ?_⟩
      · have := wk_push2 (by omega) r2 a5 a6 a7
        rw [kst] at this
        exact this
      · rw [me_f (c := 14032) r4 q1 rfl rfl, k32, i5]
        show wk_ul (wk_stk h) = wk_ul ((5, zu, zn) :: (2, 0, 0) :: wk_stk h)
        rw [wk_ul_c (by decide), wk_ul_o, Int.zero_add]
  · intro b1 b2 c1
    exfalso; omega
/-- .. of a maybe -/
theorem un208x {zn : Int} {h1 : sm_H} {s1 : gm_S} (hi : gx_in h s) (hD9 : gm_D s ≤ 990) (hu : wk_us h zu) (ht : mi_f h 14029 ≤ 2985) (oo : mi_in zo) (on : mi_in zn) (g1 : ab_Sh sx_sk h1) (g2 : ab_Fr [(14047, 14048)] h h1) (hR1 : gx_R h1 s1) (eD : gm_D s1 = gm_D s) (eF : gm_F s1 = gm_F s) : me_E (d + 6) 210 208 [some (.inr (.inr 109)), some (.inl zu), some (.inl zo), none, none] [.inl zn] h1 (gx_Q h ((gm_c 6 zn s1).bind (fun t => if 0 < zn then gm_sg (mi_a h) (gx_k h) zu ((2, 0, 0) :: wk_stk h) (gm_d t) else some ((2, 0, 0) :: wk_stk h, gm_d t)))) := by
  obtain ⟨i1, i2, i3, i4, i5, i6, i7, i8, i9, i10, i11⟩ := hi
  have hu0 := hu.1
  have hu1 := hu.2.1
  have ok : mi_in zu := ⟨by omega, by omega⟩
  have ez : ((Int32.ofInt zn).toInt64).toInt = zn := by rw [Int32.toInt_toInt64, mi_ti on]
  refine mt_unH g1 ok oo on ?_
  intro h2 p1 p2
  have e2 := me_nil p2
  subst e2
  refine ⟨_, me_comesx g1 ((me_f (c := 14028) g2 i1 rfl rfl).trans i2) ⟨by decide, by decide⟩ hR1, ?_⟩
  intro w h3 hw3 hq
  obtain ⟨q1, q2, ⟨z, rfl⟩, q3⟩ := hq
  rw [ez] at q3
  have k29 : mi_f h3 14029 = mi_f h 14029 := (me_f (c := 14029) q2 g1 rfl rfl).trans (me_f (c := 14029) g2 i1 rfl rfl)
  have k32 : mi_f h3 14032 = mi_f h 14032 := (me_f (c := 14032) q2 g1 rfl rfl).trans (me_f (c := 14032) g2 i1 rfl rfl)
  have k28 : mi_f h3 14028 = 1 := ((me_f (c := 14028) q2 g1 rfl rfl).trans (me_f (c := 14028) g2 i1 rfl rfl)).trans i2
  have kst : wk_stk h3 = wk_stk h := (wk_stk_fr q2 g1 rfl).trans (wk_stk_fr g2 i1 rfl)
  have eul : wk_ul ((2, 0, 0) :: wk_stk h) = wk_ul (wk_stk h) := by rw [wk_ul_o, Int.zero_add]
  -- the open end is pushed
  have fr : ∀ h4 : sm_H, ab_Fr [(14029, 14030), (14031, 14032), (21120, 21121), (21248, 21249), (21376, 21377)] h3 h4 → ab_Fr wr_W1 h h4 ∧ mi_f h4 14034 = mi_f h 14034 ∧ mi_f h4 14033 = mi_f h 14033 ∧ mi_f h4 14044 = mi_f h3 14044 ∧ mi_f h4 14032 = mi_f h 14032 := fun h4 r4 => ⟨((g2.wide (fun c hc => ab_swr_ok (by decide) hc)).trans (q2.wide (fun c hc => ab_swr_ok (by decide) hc))).trans (r4.wide (fun c hc => ab_swr_ok (by decide) hc)), ((me_f (c := 14034) r4 q1 rfl rfl).trans (me_f (c := 14034) q2 g1 rfl rfl)).trans (me_f (c := 14034) g2 i1 rfl rfl), ((me_f (c := 14033) r4 q1 rfl rfl).trans (me_f (c := 14033) q2 g1 rfl rfl)).trans (me_f (c := 14033) g2 i1 rfl rfl), me_f (c := 14044) r4 q1 rfl rfl, (me_f (c := 14032) r4 q1 rfl rfl).trans k32⟩
  refine mt_unI q1 ok oo on (hw3 _ rfl) ?_ ?_ ?_
  · intro b1 c1
    refine ⟨by omega, fun h4 r1 r2 r3 a5 a6 a7 r4 => ?_⟩
    obtain ⟨f1, f2, f3, f4, f5⟩ := fr h4 r4
    refine ⟨rfl, r1, f1, f2, f3, ?_⟩
    rcases q3 with ⟨e1, e2⟩ | ⟨e1, t, e2, e3⟩
    · exact Or.inl ⟨by rw [e1]; rfl, f4.trans e2⟩
    · have eT := (gm_c_t e2).2.2.2.1
      refine Or.inr ⟨f4.trans e1, ((2, 0, 0) :: wk_stk h, gm_d t), ?_, ?_, gx_R_d e3 r4 q1 rfl rfl rfl (by omega) (by omega) r3, ?_⟩
      · rw [e2, Option.bind_some, if_neg (by omega)]
      · have := wk_push1 (by omega) r2 a5 a6 a7
        rw [kst] at this
        exact this
      · rw [f5, i5]
        exact eul.symm
  · intro b1 b2 c1 c2
    refine ⟨by omega, fun h4 r1 r2 r3 a5 a6 a7 r4 => ?_⟩
    obtain ⟨f1, f2, f3, f4, f5⟩ := fr h4 r4
    rcases q3 with ⟨e1, e2⟩ | ⟨e1, t, e2, e3⟩
    · exact ⟨rfl, r1, f1, f2, f3, Or.inl ⟨by rw [e1]; rfl, f4.trans e2⟩⟩
    · exact absurd e1 c2
  · intro b1 b2 c1 c2
    refine ⟨by omega, fun h4 r1 r2 r3 a5 a6 a7 r4 => ?_⟩
    obtain ⟨f1, f2, f3, f4, f5⟩ := fr h4 r4
    rcases q3 with ⟨e1, e2⟩ | ⟨e1, t, e2, e3⟩
    · exfalso; omega
    · obtain ⟨t1, t2, t3, t4, t5⟩ := gm_c_t e2
      have est := wk_push1 (by omega) r2 a5 a6 a7
      rw [kst] at est
      have hg : wk_gc (mi_a h) (mi_a h4) := wk_gc_fr f1 i1 rfl
      have hk : gx_k h4 = gx_k h := gx_k_fr f1 i1 rfl rfl
      have dD : gm_D (gm_d t) = gm_D t + 1 := by unfold gm_d; rw [gm_D_mk]
      have dF : gm_F (gm_d t) = gm_F t := by unfold gm_d; rw [gm_F_mk]
      rw [e2, Option.bind_some, if_pos c1]
      have hi4 : gx_in h4 (gm_d t) := ⟨r1, (me_f (c := 14028) r4 q1 rfl rfl).trans k28, f4.trans e1, by omega, by rw [est, eul, f5]; exact i5, by omega, by omega, gx_R_d e3 r4 q1 rfl rfl rfl (by omega) (by omega) r3, by omega, by omega, by omega⟩
      refine ⟨_, me_singlex (d := d) hi4 (wk_us_g hg hu) (by omega), ?_⟩
      intro w h5 hw5 hq5
      have e := hq5.1
      subst e
      refine mt_unJ hq5.2.1 ok oo on ?_
      intro h6 u1 u2
      have e6 := me_nil u2
      subst e6
      rw [gm_sg_g hg, hk, est] at hq5
      exact gx_Q_fr i1 f1 f2 f3 hq5
/-- from where pairs have been looked at -/
theorem un24x (hi : gx_in h s) (hD9 : gm_D s ≤ 990) (hu : wk_us h zu) (ht : mi_f h 14029 ≤ 2985) (oo : mi_in zo) : me_E (d + 6) 210 24 [some (.inr (.inr 109)), some (.inl zu), some (.inl zo), none, none] [] h (gx_Q h (gm_u (mi_a h) (gx_k h) zu (wk_stk h) s)) := by
  obtain ⟨i1, i2, i3, i4, i5, i6, i7, i8, i9, i10, i11⟩ := id hi
  have hu0 := hu.1
  have hu1 := hu.2.1
  have ok : mi_in zu := ⟨by omega, by omega⟩
  have e35 : mi_f h 14035 = gm_F s := i8.2.2.1
  obtain ⟨y, hy⟩ : ∃ y, gm_x (gm_X s) = y := ⟨_, rfl⟩
  have Fnil : ∀ {h1 : sm_H}, ab_Fr [] h h1 → ab_Fr [(14047, 14048)] h h1 := fun g => g.wide (fun c hc => by cases hc)
  refine mt_unB i1 ok oo ?_ ?_ ?_ ?_ ?_ ?_ ?_ ?_ ?_
  · intro c1 c2
    refine ⟨by omega, fun h1 g1 g2 => ?_⟩
    have e3 := me_nil g2
    subst e3
    refine ⟨_, me_singlex (d := d) hi hu (by omega), ?_⟩
    intro w h3 hw3 hq
    have e := hq.1
    subst e
    refine mt_unK hq.2.1 ok oo ?_
    intro h6 u1 u2
    have e6 := me_nil u2
    subst e6
    unfold gm_u
    rw [if_neg c1, if_neg c2]
    exact hq
  · intro b c1 c2 c3
    exact absurd i2 c3
  · intro b1 b2 c1 c2 c3
    exact absurd i2 c3
  · intro b1 b2 c1 c2 c3 c4
    obtain ⟨z, hz⟩ : ∃ z, gm_v y 2 = z := ⟨_, rfl⟩
    have nf : ¬ gm_F s < 0 := by omega
    refine ⟨by omega, fun h1 g1 g2 => ?_⟩
    have e3 := me_nil g2
    subst e3
    refine ⟨_, me_drawx g1 (by decide) (by decide), ?_⟩
    intro w h3 hw3 hq
    obtain ⟨q1, q2, q3, q4⟩ := hq
    have R2 := gx_R_x i8 q2 g1 q3
    have ex : mx_l h1 14047 = gm_X s := i8.2.1
    rw [ex, hy, hz] at q4
    rw [hy] at R2
    subst q4
    refine mt_unF q1 ok oo (hw3 _ rfl) ?_
    intro h4 g4 g5
    unfold gm_u
    rw [if_neg c1, if_pos c2, gm_n_1 nf hy hz, gm_y_1 nf hy]
    exact un208x hi hD9 hu ht oo (hw3 _ rfl) g4 (q2.trans (g5.wide (fun c hc => by cases hc))) (gx_R_fr0 R2 g5 q1 rfl) (gm_D_mk _ _ _ _ _) (gm_F_mk _ _ _ _ _)
  · intro b1 b2 c1 c2 c3 c4
    have nf : gm_F s < 0 := by omega
    refine ⟨by omega, fun h1 g1 g2 => ?_⟩
    unfold gm_u
    rw [if_neg c1, if_pos c2, gm_n_0 nf, gm_y_0 nf]
    exact un208x hi hD9 hu ht oo ⟨by decide, by decide⟩ g1 (Fnil g2) (gx_R_fr0 i8 g2 i1 rfl) rfl rfl
  · intro b1 c1 c2
    exact absurd i2 c2
  · intro b1 b2 c1 c2
    exact absurd i2 c2
  · intro b1 b2 c1 c2 c3
    obtain ⟨z, hz⟩ : ∃ z, gm_v y 3 = z := ⟨_, rfl⟩
    have nf : ¬ gm_F s < 0 := by omega
    refine ⟨by omega, fun h1 g1 g2 => ?_⟩
    have e3 := me_nil g2
    subst e3
    refine ⟨_, me_drawx g1 (by decide) (by decide), ?_⟩
    intro w h3 hw3 hq
    obtain ⟨q1, q2, q3, q4⟩ := hq
    have R2 := gx_R_x i8 q2 g1 q3
    have ex : mx_l h1 14047 = gm_X s := i8.2.1
    rw [ex, hy, hz] at q4
    rw [hy] at R2
    subst q4
    refine mt_unC q1 ok oo (hw3 _ rfl) ?_
    intro h4 g4 g5
    unfold gm_u
    rw [if_pos c1, gm_n_1 nf hy hz, gm_y_1 nf hy]
    exact un83x hi hu0 hu1 ht oo (hw3 _ rfl) g4 (q2.trans (g5.wide (fun c hc => by cases hc))) (gx_R_fr0 R2 g5 q1 rfl) (gm_D_mk _ _ _ _ _)
  · intro b1 b2 c1 c2 c3
    have nf : gm_F s < 0 := by omega
    refine ⟨by omega, fun h1 g1 g2 => ?_⟩
    unfold gm_u
    rw [if_pos c1, gm_n_0 nf, gm_y_0 nf]
    exact un83x hi hu0 hu1 ht oo ⟨by decide, by decide⟩ g1 (Fnil g2) (gx_R_fr0 i8 g2 i1 rfl) rfl
/-- with pairs -/
def ux_Q (h : sm_H) (m : Option gm_C) (w : Option mi_V) (h' : sm_H) : Prop := w = none ∧ ab_Sh sx_sk h' ∧ ((m = none ∧ mi_f h' 14044 = 1) ∨ (mi_f h' 14044 = 0 ∧ ∃ c, m = some c ∧ wk_stk h' = c.1 ∧ gx_R h' c.2 ∧ mi_f h' 14032 = wk_ul c.1))
theorem gx_Q_u {h0 h' : sm_H} {m : Option gm_C} {w : Option mi_V} (hq : gx_Q h0 m w h') : ux_Q h m w h' := ⟨hq.1, hq.2.1, hq.2.2.2.2.2⟩
theorem gx_P_lt {h1 : sm_H} {L : Nat} (hlt : ∀ i, i < L → mi_a h1 168 i = mi_a h 168 i ∧ mi_a h1 169 i = mi_a h 169 i) : ∀ q : List (Nat × Nat), q.length ≤ L → gx_P h q → gx_P h1 q := by
  intro q
  induction q with
  | nil => intro _ _; trivial
  | cons p q ih =>
    intro hl hq
    obtain ⟨a, b, c⟩ := hq
    have hl' : q.length + 1 ≤ L := hl
    obtain ⟨e1, e2⟩ := hlt q.length (by omega)
    exact ⟨e1.trans a, b.imp_right (fun b => e2.trans b), ih (by omega) c⟩
theorem gx_op {h1 : sm_H} (hR : gx_R h s) (hS : ab_Sh sx_sk h) (g2 : mi_f h1 14030 = mi_f h 14030 + 1) (g3 : ∀ i, mi_a h1 168 i = if i = Int.toNat (mi_f h 14030) then mi_f h 14016 else mi_a h 168 i) (g4 : ab_Fr [(14030, 14031), (21504, 21505)] h h1) : gx_R h1 (gm_op 1 s) := by
  obtain ⟨r1, r2, r3, r4, r5, r6⟩ := hR
  have el : Int.toNat (mi_f h 14030) = (gm_P s).length := by omega
  unfold gm_op
  rw [if_pos rfl]
  unfold gx_R
  rw [gm_T_mk, gm_X_mk, gm_F_mk, gm_D_mk, gm_P_mk]
  refine ⟨gx_T_fr r1 g4 hS rfl, (me_l (c := 14047) g4 hS rfl rfl).trans r2, (me_f (c := 14035) g4 hS rfl rfl).trans r3, (me_f (c := 14031) g4 hS rfl rfl).trans r4, ?_, ?_, Or.inl rfl, ?_⟩
  · rw [g2, r5, List.length_cons]
    omega
  · rw [g3, if_pos el.symm]
    exact r1.1
  · refine gx_P_lt (L := (gm_P s).length) (fun i hi => ⟨?_, me_a (k := 169) g4 hS rfl rfl⟩) _ (Nat.le_refl _) r6
    rw [g3, if_neg (by omega)]
theorem me_unitx (hi : gx_in h s) (hD9 : gm_D s ≤ 990) (hu : wk_us h zu) (ht : mi_f h 14029 ≤ 2985) (hz : zo = 0 ∨ zo = 1) (hp : zo = 1 → 0 ≤ mi_f h 14030 ∧ mi_f h 14030 < 64) : me_E (d + 6) 210 0 [some (.inr (.inr 109)), some (.inl zu), some (.inl zo), none, none] [] h (ux_Q h (gm_st (mi_a h) (gx_k h) (0, zu, zo) (wk_stk h) s)) := by
  obtain ⟨i1, i2, i3, i4, i5, i6, i7, i8, i9, i10, i11⟩ := id hi
  have hu0 := hu.1
  have hu1 := hu.2.1
  have oo : mi_in zo := ⟨by omega, by omega⟩
  have ou : mi_in zu := ⟨by omega, by omega⟩
  rw [gm_st_0]
  refine mt_unA i1 ou oo ?_ ?_
  · intro c h1 g1 g2
    have e1 := me_nil g2
    subst e1
    have e : gm_op zo s = s := by
      unfold gm_op
      rw [if_neg (by omega)]
    rw [e]
    exact (un24x hi hD9 hu ht oo).imp (fun w h' hq => gx_Q_u hq)
  · intro b1 b2 c
    have z1 : zo = 1 := by omega
    have hp := hp z1
    refine ⟨by omega, fun h1 g1 g2 g3 g4 => ?_⟩
    rw [z1] at oo ⊢
    have est : wk_stk h1 = wk_stk h := wk_stk_fr g4 i1 rfl
    have e29 : mi_f h1 14029 = mi_f h 14029 := me_f (c := 14029) g4 i1 rfl rfl
    have e32 : mi_f h1 14032 = mi_f h 14032 := me_f (c := 14032) g4 i1 rfl rfl
    have hg : wk_gc (mi_a h) (mi_a h1) := wk_gc_fr g4 i1 rfl
    have hk : gx_k h1 = gx_k h := gx_k_fr g4 i1 rfl rfl
    have eF : gm_F (gm_op 1 s) = gm_F s := by unfold gm_op; rw [if_pos rfl, gm_F_mk]
    have eD : gm_D (gm_op 1 s) = gm_D s := by unfold gm_op; rw [if_pos rfl, gm_D_mk]
    have hi1 : gx_in h1 (gm_op 1 s) := ⟨g1, (me_f (c := 14028) g4 i1 rfl rfl).trans i2, (me_f (c := 14044) g4 i1 rfl rfl).trans i3, by omega, by rw [est, e32]; exact i5, by omega, by omega, gx_op i8 i1 g2 g3 g4, by omega, by omega, by omega⟩
    have key := un24x (d := d) (zo := 1) hi1 (by omega) (wk_us_g hg hu) (by omega) oo
    have eu : gm_u (mi_a h1) (gx_k h1) zu (wk_stk h1) (gm_op 1 s) = gm_u (mi_a h) (gx_k h) zu (wk_stk h) (gm_op 1 s) := by
      unfold gm_u
      rw [hk, est, hg 122 (by decide)]
      simp only [gm_sg_g hg]
    rw [eu] at key
    exact key.imp (fun w h' hq => gx_Q_u hq)
end GX8
/-! lowest, choose of the reference, exactly -/
section GX9
theorem gm_lo_s (g : wk_g) (m : Nat) (a n b hi : Int) : gm_lo g (m + 1) a n b hi = gm_lo g m (g 128 a.toNat) (n + 1) (if g 143 a.toNat < hi then n else b) (if g 143 a.toNat < hi then g 143 a.toNat else hi) := by rw [gm_lo]
theorem gm_lo_0 (g : wk_g) (a n b hi : Int) : gm_lo g 0 a n b hi = b := by rw [gm_lo]
theorem gm_lo_b2 (g : wk_g) {B : Int} : ∀ (m : Nat) (a n b hi : Int), 0 ≤ n → n + m ≤ B → 0 ≤ b → b < B → 0 ≤ gm_lo g m a n b hi ∧ gm_lo g m a n b hi < B := by
  intro m
  induction m with
  | zero => intro a n b hi h0 h1 h2 h3; rw [gm_lo_0]; exact ⟨h2, h3⟩
  | succ m ih =>
    intro a n b hi h0 h1 h2 h3
    rw [gm_lo_s]
    refine ih _ _ _ _ (by omega) (by omega) ?_ ?_
    · split <;> omega
    · split <;> omega
variable {d : Nat} {h : sm_H} {zf : Int} {s : gm_S}
theorem me_loBx (hS : ab_Sh sx_sk h) (hf0 : 0 ≤ zf) (hf1 : zf < 80) (hf : wk_fa (mi_a h) zf) : ∀ (N : Nat) (j : Nat) (zb zh : Int), (mi_a h 130 zf.toNat) - j = N → mi_in zb → mi_in zh → me_E d 225 17 [some (.inr (.inr 109)), some (.inl zf), some (.inl (j : Int)), some (.inl zb), some (.inl zh), some (.inl (wk_alt (mi_a h) j (mi_a h 129 zf.toNat)))] [] h (fun w h' => h' = h ∧ w = some (.inl (gm_lo (mi_a h) N (wk_alt (mi_a h) j (mi_a h 129 zf.toNat)) (j : Int) zb zh))) := by
  have of : mi_in zf := ⟨by omega, by omega⟩
  have b130 := me_ab (k := 130) (i := zf.toNat) hS rfl (by decide) (by omega)
  intro N
  induction N with
  | zero =>
    intro j zb zh h1 ob oh
    have hc := wk_fa_at hf (j := j) (by omega)
    generalize ha : wk_alt (mi_a h) j (mi_a h 129 zf.toNat) = a at hc ⊢
    have oj : mi_in (j : Int) := ⟨by omega, by omega⟩
    have oa : mi_in a := by
      rw [← ha]
      cases j with
      | zero => exact mi_inT _
      | succ j => rw [wk_alt_succ]; exact mi_inT _
    refine mt_loB hS of oj ob oh oa ?_ ?_ ?_
    · intro c h3' r1 r2
      exact ⟨me_nil r2, by rw [gm_lo_0]⟩
    · intro c1 c2
      omega
    · intro c1 c2
      omega
  | succ N ih =>
    intro j zb zh h1 ob oh
    have hc := wk_fa_at hf (j := j) (by omega)
    have es := wk_alt_succ (mi_a h) j (mi_a h 129 zf.toNat)
    generalize ha : wk_alt (mi_a h) j (mi_a h 129 zf.toNat) = a at hc es ⊢
    have oj : mi_in (j : Int) := ⟨by omega, by omega⟩
    have oa : mi_in a := by
      rw [← ha]
      cases j with
      | zero => exact mi_inT _
      | succ j => rw [wk_alt_succ]; exact mi_inT _
    rw [gm_lo_s]
    refine mt_loB hS of oj ob oh oa ?_ ?_ ?_
    · intro c h3' r1 r2
      omega
    · intro c1 c2
      refine ⟨by omega, fun h3' r1 r2 => ?_⟩
      have e3 := me_nil r2
      subst e3
      have := ih (j + 1) zb zh (by omega) ob oh
      rw [es] at this
      rw [if_neg (by omega), if_neg (by omega)]
      exact this
    · intro c1 c2
      refine ⟨by omega, fun h3' r1 r2 => ?_⟩
      have e3 := me_nil r2
      subst e3
      have := ih (j + 1) (j : Int) (mi_a h3' 143 a.toNat) (by omega) oj (mi_inT _)
      rw [es] at this
      rw [if_pos c2, if_pos c2]
      exact this
theorem me_lowestx (hS : ab_Sh sx_sk h) (hf0 : 0 ≤ zf) (hf1 : zf < 80) (hf : wk_fa (mi_a h) zf) : me_E d 225 0 [some (.inr (.inr 109)), some (.inl zf), none, none, none, none] [] h (fun w h' => h' = h ∧ w = some (.inl (gm_lo (mi_a h) (mi_a h 130 zf.toNat).toNat (mi_a h 129 zf.toNat) 0 0 1001))) := by
  refine mt_loA hS ⟨by omega, by omega⟩ ?_
  refine ⟨by omega, fun h3 r1 r2 => ?_⟩
  have e3 := me_nil r2
  subst e3
  have := hf.1
  exact me_loBx hS hf0 hf1 hf _ 0 0 1001 (by omega) ⟨by decide, by decide⟩ ⟨by decide, by decide⟩
/-- a form -/
def gm_fo (g : wk_g) (f : Int) (r : List wk_E) (s : gm_S) : Option gm_C :=
  if 1 < g 130 f.toNat then (gm_c 4 (gm_w g f s) (gm_y s)).map (fun t => (wk_it g 61 (g 126 (wk_alt g (gm_w g f s).toNat (g 129 f.toNat)).toNat) ++ (2, 0, 0) :: r, gm_d t))
  else some (wk_it g 61 (g 126 (g 129 f.toNat).toNat) ++ r, s)
theorem gm_w_0 {g : wk_g} {f : Int} (hf : gm_F s < 0) : gm_w g f s = gm_lo g (g 130 f.toNat).toNat (g 129 f.toNat) 0 0 1001 := by
  unfold gm_w
  rw [if_pos hf]
theorem gm_w_1 {g : wk_g} {f z : Int} {y : Int64} (hf : ¬ gm_F s < 0) (hy : gm_x (gm_X s) = y) (hz : gm_v y (g 130 f.toNat) = z) : gm_w g f s = z := by
  unfold gm_w
  rw [if_neg hf, hy, hz]
theorem wk_ul_it2 {g : wk_g} {N : Nat} {u : Int} {r : List wk_E} : wk_ul (wk_it g N u ++ (2, 0, 0) :: r) = wk_ul r := by
  rw [wk_ul_it, wk_ul_o, Int.zero_add]
theorem me_choosex {U : Int} (hi : gx_in h s) (hf0 : 0 ≤ zf) (hf1 : zf < 80) (hf : wk_fa (mi_a h) zf) (hC : wk_C (mi_a h) U) (hfi : ∀ j : Nat, (j : Int) < mi_a h 130 zf.toNat → mi_a h 126 (wk_alt (mi_a h) j (mi_a h 129 zf.toNat)).toNat < 0 ∨ mi_a h 126 (wk_alt (mi_a h) j (mi_a h 129 zf.toNat)).toNat < U) (hlen : ∀ j : Nat, (j : Int) < mi_a h 130 zf.toNat → ((wk_it (mi_a h) 61 (mi_a h 126 (wk_alt (mi_a h) j (mi_a h 129 zf.toNat)).toNat)).length : Int) + mi_f h 14029 + 1 ≤ 2999) : me_E (d + 6) 223 0 [some (.inr (.inr 109)), some (.inl zf), none, none, none, none] [] h (gx_Q h (gm_fo (mi_a h) zf (wk_stk h) s)) := by
  obtain ⟨i1, i2, i3, i4, i5, i6, i7, i8, i9, i10, i11⟩ := hi
  have of : mi_in zf := ⟨by omega, by omega⟩
  have b130 := me_ab (k := 130) (i := zf.toNat) i1 rfl (by decide) (by omega)
  have e35 : mi_f h 14035 = gm_F s := i8.2.2.1
  obtain ⟨y, hy⟩ : ∃ y, gm_x (gm_X s) = y := ⟨_, rfl⟩
  -- behind the choice
  have go80 : ∀ (zz : Int) (h1 : sm_H) (s1 : gm_S), mi_in zz → 0 ≤ zz → zz < mi_a h 130 zf.toNat → ab_Sh sx_sk h1 → ab_Fr [(14047, 14048)] h h1 → gx_R h1 s1 → gm_D s1 = gm_D s → me_E (d + 6) 223 80 [some (.inr (.inr 109)), some (.inl zf), some (.inl (0 : Int)), some (.inl (mi_a h 129 zf.toNat)), none, none] [.inl zz] h1 (gx_Q h ((gm_c 4 zz s1).map (fun t => (wk_it (mi_a h) 61 (mi_a h 126 (wk_alt (mi_a h) zz.toNat (mi_a h 129 zf.toNat)).toNat) ++ (2, 0, 0) :: wk_stk h, gm_d t)))) := by
    intro zz h1 s1 oz hz0 hz1 g1 g2 hR1 eD
    refine mt_chD g1 of ⟨by decide, by decide⟩ (mi_inT _) oz ?_ ?_
    · intro c h2' r1 r2
      have e2 := me_nil r2
      subst e2
      refine mt_chD2 g1 of oz (mi_inT _) ?_
      intro h3 s1' s2
      have e3 := me_nil s2
      subst e3
      have ez : ((Int32.ofInt zz).toInt64).toInt = zz := by rw [Int32.toInt_toInt64, mi_ti oz]
      refine ⟨_, me_comesx (d := d + 5) g1 ((me_f (c := 14028) g2 i1 rfl rfl).trans i2) ⟨by decide, by decide⟩ hR1, ?_⟩
      intro w h4 hw hq
      obtain ⟨q1, q2, ⟨z, rfl⟩, q3⟩ := hq
      rw [ez] at q3
      have n29 : mi_f h4 14029 = mi_f h 14029 := (me_f (c := 14029) q2 g1 rfl rfl).trans (me_f (c := 14029) g2 i1 rfl rfl)
      have n32 : mi_f h4 14032 = mi_f h 14032 := (me_f (c := 14032) q2 g1 rfl rfl).trans (me_f (c := 14032) g2 i1 rfl rfl)
      have nst : wk_stk h4 = wk_stk h := (wk_stk_fr q2 g1 rfl).trans (wk_stk_fr g2 i1 rfl)
      have nF : ab_Fr wr_W1 h h4 := (g2.wide (fun c hc => ab_swr_ok (by decide) hc)).trans (q2.wide (fun c hc => ab_swr_ok (by decide) hc))
      obtain ⟨j, rfl⟩ : ∃ j : Nat, zz = (j : Int) := ⟨zz.toNat, by omega⟩
      have hlj := hlen j hz1
      rw [Int.toNat_natCast]
      refine mt_chE q1 of oz (mi_inT _) (hw _ rfl) ?_
      intro b1
      refine ⟨by clear hlen hfi; omega, fun h5 t1 t2 t3 a5 a6 a7 t4 => ?_⟩
      have est := wk_push1 (by omega) t2 a5 a6 a7
      rw [nst] at est
      have F5 : ab_Fr wr_W1 h h5 := nF.trans (t4.wide (fun c hc => ab_swr_ok (by decide) hc))
      have hg : wk_gc (mi_a h) (mi_a h5) := wk_gc_fr F5 i1 rfl
      have hC5 : wk_C (mi_a h5) U := by
        refine ⟨hC.1, fun u u0 u1 => ?_⟩
        rw [hg 124 (by decide), hg 125 (by decide), hg 124 (by decide)]
        exact hC.2 u u0 u1
      have hf5 : wk_fa (mi_a h5) zf := by
        unfold wk_fa
        rw [hg 130 (by decide), hg 129 (by decide), wk_alt_g hg]
        refine ⟨hf.1, hf.2.1, fun j hj => ?_⟩
        rw [wk_alt_g hg]
        exact hf.2.2 j hj
      have ea : wk_alt (mi_a h5) j (mi_a h5 129 zf.toNat) = wk_alt (mi_a h) j (mi_a h 129 zf.toNat) := by rw [wk_alt_g hg, hg 129 (by decide)]
      have haj := hf.2.2 j hz1
      have hfj := hfi j hz1
      generalize hA : wk_alt (mi_a h) j (mi_a h 129 zf.toNat) = A at ea haj hfj hlj
      have key := ch127 (d := d) (Q := gx_Q h ((gm_c 4 (j : Int) s1).map (fun t => (wk_it (mi_a h) 61 (mi_a h 126 A.toNat) ++ (2, 0, 0) :: wk_stk h, gm_d t)))) t1 of hf0 hf1 hf5 (j := j) (by rw [hg 130 (by decide)]; exact hz1) (fun zj ozj => by
        rw [ea]
        refine (ch146 (U := U) t1 of oz (fun v hv => by cases hv; exact ozj) hC5 haj.1 haj.2 (by rw [hg 126 (by decide)]; exact hfj) (by clear hlen hfi; omega) (by rw [wk_it_g hg, hg 126 (by decide)]; clear hlen hfi; omega)).imp (fun w h' hq => ?_)
        obtain ⟨p1, p2, p3, p4, p5⟩ := hq
        have F6 : ab_Fr wr_W1 h h' := F5.trans (p3.wide (fun c hc => ab_swr_ok (by decide) hc))
        have e44 : mi_f h' 14044 = mi_f h4 14044 := (me_f (c := 14044) p3 t1 rfl rfl).trans (me_f (c := 14044) t4 q1 rfl rfl)
        refine ⟨p1, p2, F6, (((me_f (c := 14034) p3 t1 rfl rfl).trans (me_f (c := 14034) t4 q1 rfl rfl)).trans (me_f (c := 14034) q2 g1 rfl rfl)).trans (me_f (c := 14034) g2 i1 rfl rfl), (((me_f (c := 14033) p3 t1 rfl rfl).trans (me_f (c := 14033) t4 q1 rfl rfl)).trans (me_f (c := 14033) q2 g1 rfl rfl)).trans (me_f (c := 14033) g2 i1 rfl rfl), ?_⟩
        rcases q3 with ⟨e1, e2⟩ | ⟨e1, t, e2, e3⟩
        · exact Or.inl ⟨by rw [e1]; rfl, e44.trans e2⟩
        · have eT := (gm_c_t e2).2.2.2.1
          refine Or.inr ⟨e44.trans e1, (wk_it (mi_a h) 61 (mi_a h 126 A.toNat) ++ (2, 0, 0) :: wk_stk h, gm_d t), by rw [e2]; rfl, ?_, gx_R_fr (gx_R_d e3 t4 q1 rfl rfl rfl (by clear hlen hfi; omega) (by clear hlen hfi; omega) t3) p3 t1 rfl rfl rfl rfl, ?_⟩
          · rw [p5, wk_it_g hg, hg 126 (by decide), est]
          · rw [me_f (c := 14032) p3 t1 rfl rfl, me_f (c := 14032) t4 q1 rfl rfl, n32, i5]
            exact wk_ul_it2.symm) (j + 1) 0 (by clear hlen hfi; omega) (Nat.zero_le _)
      rw [hg 129 (by decide)] at key
      exact key
    · intro b c
      exfalso; clear hlen hfi; omega
  have Fnil : ∀ {h1 : sm_H}, ab_Fr [] h h1 → ab_Fr [(14047, 14048)] h h1 := fun g => g.wide (fun c hc => by cases hc)
  refine mt_chA i1 of ?_ ?_ ?_ ?_ ?_
  · intro c1
    have h1c : (1 : Int) ≤ mi_a h 130 zf.toNat := hf.1
    have h0l : ((0 : Nat) : Int) < mi_a h 130 zf.toNat := by clear hlen hfi; omega
    have hl0 := hlen 0 h0l
    have ha0 := hf.2.2 0 h0l
    have hf0' := hfi 0 h0l
    refine ⟨by clear hlen hfi; omega, fun h1 g1 g2 => ?_⟩
    have e1 := me_nil g2
    subst e1
    unfold gm_fo
    rw [if_neg (by clear hlen hfi; omega)]
    refine (ch146 (U := U) g1 of ⟨by decide, by decide⟩ (fun v hv => by cases hv) hC ha0.1 ha0.2 hf0' i4 (by
      clear hlen hfi
      omega)).imp (fun w h' hq => ?_)
    obtain ⟨p1, p2, p3, p4, p5⟩ := hq
    exact ⟨p1, p2, p3.wide (fun c hc => ab_swr_ok (by decide) hc), me_f (c := 14034) p3 g1 rfl rfl, me_f (c := 14033) p3 g1 rfl rfl, Or.inr ⟨(me_f (c := 14044) p3 g1 rfl rfl).trans i3, _, rfl, p5, gx_R_fr i8 p3 g1 rfl rfl rfl rfl, by rw [me_f (c := 14032) p3 g1 rfl rfl, i5]; exact wk_ul_it.symm⟩⟩
  · intro b1 b2 c1 c2 c3 c4
    have nf : ¬ gm_F s < 0 := by clear hlen hfi; omega
    obtain ⟨z, hz⟩ : ∃ z, gm_v y (mi_a h 130 zf.toNat) = z := ⟨_, rfl⟩
    have hzb := gm_vbt y (mi_a h 130 zf.toNat) (by clear hlen hfi; omega) (by clear hlen hfi; omega)
    rw [hz] at hzb
    refine ⟨by clear hlen hfi; omega, fun h1 g1 g2 => ?_⟩
    have e1 := me_nil g2
    subst e1
    refine ⟨_, me_drawx (d := d + 5) g1 (by clear hlen hfi; omega) (by clear hlen hfi; omega), ?_⟩
    intro w h3 hw hq
    obtain ⟨q1, q2, q3, q4⟩ := hq
    have R2 := gx_R_x i8 q2 g1 q3
    have ex : mx_l h1 14047 = gm_X s := i8.2.1
    rw [ex, hy, hz] at q4
    rw [hy] at R2
    subst q4
    unfold gm_fo
    rw [if_pos c1, gm_w_1 nf hy hz, gm_y_1 nf hy]
    exact go80 z h3 _ (hw _ rfl) hzb.1 hzb.2 q1 q2 R2 (gm_D_mk _ _ _ _ _)
  · intro b1 b2 c1 c2 c3 c4
    have nf : gm_F s < 0 := by clear hlen hfi; omega
    have hl := gm_lo_b2 (mi_a h) (B := mi_a h 130 zf.toNat) (mi_a h 130 zf.toNat).toNat (mi_a h 129 zf.toNat) 0 0 1001 (by decide) (by clear hlen hfi; omega) (by decide) (by clear hlen hfi; omega)
    refine ⟨by clear hlen hfi; omega, fun h1 g1 g2 => ?_⟩
    have e1 := me_nil g2
    subst e1
    refine ⟨_, me_lowestx (d := d + 5) g1 hf0 hf1 hf, ?_⟩
    intro w h3 hw hq
    obtain ⟨rfl, q4⟩ := hq
    subst q4
    unfold gm_fo
    rw [if_pos c1, gm_w_0 nf, gm_y_0 nf]
    generalize gm_lo (mi_a h3) (mi_a h3 130 zf.toNat).toNat (mi_a h3 129 zf.toNat) 0 0 1001 = z at hl hw ⊢
    refine mt_chC g1 of ⟨by decide, by decide⟩ (mi_inT _) (hw _ rfl) ?_
    intro h4 g3 g4
    exact go80 z h4 s (hw _ rfl) hl.1 hl.2 g3 (Fnil g4) (gx_R_fr0 i8 g4 g1 rfl) rfl
  · intro b1 b2 c1 c2 c3
    exfalso; clear hlen hfi; omega
  · intro b1 c1 c2
    exfalso; clear hlen hfi; omega
end GX9
/-! swap of the reference, exactly -/
theorem gm_rot_get {a b : Nat} {T : List (Int × Int × Int)} (hab : a ≤ b) (hb : b ≤ T.length) (k : Nat) : (gm_rot a b T)[k]? = if k < T.length then T[if k < a then k else if k < a + (T.length - b) then k + (b - a) else k - (T.length - b)]? else none := by
  unfold gm_rot
  rw [if_pos ⟨hab, hb⟩]
  by_cases ck : k < T.length
  · rw [if_pos ck]
    by_cases c1 : k < a
    · rw [if_pos c1, List.append_assoc, List.getElem?_append_left (by rw [List.length_take]; omega), List.getElem?_take_of_lt c1]
    · rw [if_neg c1]
      by_cases c2 : k < a + (T.length - b)
      · rw [if_pos c2, List.getElem?_append_left (by rw [List.length_append, List.length_take, List.length_drop]; omega), List.getElem?_append_right (by rw [List.length_take]; omega), List.getElem?_drop, List.length_take]
        exact congrArg (fun i => T[i]?) (by omega)
      · rw [if_neg c2, List.getElem?_append_right (by rw [List.length_append, List.length_take, List.length_drop]; omega), List.getElem?_drop, List.length_append, List.length_take, List.length_drop, List.getElem?_take_of_lt (by omega)]
        exact congrArg (fun i => T[i]?) (by omega)
  · rw [if_neg ck]
    exact List.getElem?_eq_none (by rw [List.length_append, List.length_append, List.length_drop, List.length_drop, List.length_take, List.length_take]; omega)
section GXA
variable {d : Nat} {zb za zn : Int}
/-- the order, behind a swap -/
def sw_o (O : Nat → Int) (a n m : Int) (i : Nat) : Int := if (i : Int) < a then O i else if (i : Int) < m - n then O (i + n.toNat) else if (i : Int) < m then O (i + a.toNat - (m - n).toNat) else O i
theorem sw99x (O : Nat → Int) (m : Int) (ob : mi_in zb) (ha0 : 0 ≤ za) (hn0 : 0 ≤ zn) (han : za + zn ≤ m) (hm : m ≤ 100) : ∀ (N : Nat) (zk : Int) (h : sm_H), zn - zk < N → 0 ≤ zk → zk ≤ zn → mi_f h 14016 = m → ab_Sh sx_sk h → (∀ i : Nat, (i : Int) < zn → mi_a h 145 i = O (i + za.toNat)) → (∀ i : Nat, mi_a h 160 i = if (i : Int) < za then O i else if (i : Int) < m - zn then O (i + zn.toNat) else if (i : Int) < m - zn + zk then O (i + za.toNat - (m - zn).toNat) else O i) → me_E d 226 99 [some (.inr (.inr 109)), some (.inl zb), some (.inl za), some (.inl zn), some (.inl zk)] [] h (fun w h' => w = none ∧ ab_Sh sx_sk h' ∧ ab_Fr wr_sw h h' ∧ mi_f h' 14030 = mi_f h 14030 ∧ ∀ i : Nat, mi_a h' 160 i = sw_o O za zn m i) := by
  have on : mi_in zn := ⟨by omega, by omega⟩
  have oa : mi_in za := ⟨by omega, by omega⟩
  intro N
  induction N with
  | zero => intro zk h h1 h2 h3; omega
  | succ N ih =>
    intro zk h h1 h2 h3 h4 hS hr ho
    have ok : mi_in zk := ⟨by omega, by omega⟩
    refine mt_swD hS ob oa on ok ?_ ?_
    · intro c h3' r1 r2
      have e3 := me_nil r2
      subst e3
      refine ⟨rfl, r1, ab_Fr.refl, rfl, fun i => ?_⟩
      rw [ho]
      unfold sw_o
      have e : m - zn + zk = m := by omega
      rw [e]
    · intro b c
      have br := me_ab (k := 145) (i := zk.toNat) hS rfl (by decide) (by omega)
      refine ⟨by omega, fun h3' r1 r2 r3 => ?_⟩
      have e16 : mi_f h3' 14016 = mi_f h 14016 := me_f (c := 14016) r3 hS rfl rfl
      refine (ih _ h3' (by omega) (by omega) (by omega) (by omega) r1 (fun i hi => (me_a (k := 145) r3 hS rfl rfl).trans (hr i hi)) (fun i => ?_)).imp (fun w h' hq => ⟨hq.1, hq.2.1, (r3.wide (fun c hc => ab_swr_ok (by decide) hc)).trans hq.2.2.1, hq.2.2.2.1.trans (me_f (c := 14030) r3 hS rfl rfl), hq.2.2.2.2⟩)
      rw [r2]
      by_cases ei : i = Int.toNat (mi_f h 14016 - zn + zk)
      · rw [if_pos ei, hr zk.toNat (by omega), if_neg (by omega), if_neg (by omega), if_pos (by omega)]
        exact congrArg O (by omega)
      · rw [if_neg ei, ho]
        by_cases c1 : (i : Int) < za
        · rw [if_pos c1, if_pos c1]
        · rw [if_neg c1, if_neg c1]
          by_cases c2 : (i : Int) < m - zn
          · rw [if_pos c2, if_pos c2]
          · rw [if_neg c2, if_neg c2]
            by_cases c3 : (i : Int) < m - zn + zk
            · rw [if_pos c3, if_pos (by omega)]
            · rw [if_neg c3, if_neg (by omega)]
theorem sw65x (O : Nat → Int) (m : Int) (ha0 : 0 ≤ za) (hn0 : 0 ≤ zn) (hab : zb = za + zn) (hbm : zb ≤ m) (hm : m ≤ 100) : ∀ (N : Nat) (zk : Int) (h : sm_H), 100 - zk < N → zb ≤ zk → zk ≤ m → mi_f h 14016 = m → ab_Sh sx_sk h → (∀ i : Nat, (i : Int) < zn → mi_a h 145 i = O (i + za.toNat)) → (∀ i : Nat, mi_a h 160 i = if (i : Int) < za then O i else if (i : Int) < zk - zn then O (i + zn.toNat) else O i) → me_E d 226 65 [some (.inr (.inr 109)), some (.inl zb), some (.inl za), some (.inl zn), some (.inl zk)] [] h (fun w h' => w = none ∧ ab_Sh sx_sk h' ∧ ab_Fr wr_sw h h' ∧ mi_f h' 14030 = mi_f h 14030 ∧ ∀ i : Nat, mi_a h' 160 i = sw_o O za zn m i) := by
  have on : mi_in zn := ⟨by omega, by omega⟩
  have oa : mi_in za := ⟨by omega, by omega⟩
  have ob : mi_in zb := ⟨by omega, by omega⟩
  intro N
  induction N with
  | zero => intro zk h h1 h2 h3; omega
  | succ N ih =>
    intro zk h h1 h2 h3 h4 hS hr ho
    have ok : mi_in zk := ⟨by omega, by omega⟩
    have b16 := me_fb (c := 14016) hS rfl
    refine mt_swC hS ob oa on ok ?_ ?_
    · intro b c h3' r1 r2
      have e3 := me_nil r2
      subst e3
      refine sw99x O m ob ha0 hn0 (by omega) hm 200 0 h3' (by omega) (by decide) hn0 h4 r1 hr (fun i => ?_)
      have e : zk = m := by omega
      rw [ho, e]
      by_cases c1 : (i : Int) < za
      · rw [if_pos c1, if_pos c1]
      · rw [if_neg c1, if_neg c1]
        by_cases c2 : (i : Int) < m - zn
        · rw [if_pos c2, if_pos c2]
        · rw [if_neg c2, if_neg c2, if_neg (by omega)]
    · intro b c
      have br := me_ab (k := 160) (i := zk.toNat) hS rfl (by decide) (by omega)
      refine ⟨by omega, fun h3' r1 r2 r3 => ?_⟩
      have e16 : mi_f h3' 14016 = mi_f h 14016 := me_f (c := 14016) r3 hS rfl rfl
      refine (ih _ h3' (by omega) (by omega) (by omega) (by omega) r1 (fun i hi => (me_a (k := 145) r3 hS rfl rfl).trans (hr i hi)) (fun i => ?_)).imp (fun w h' hq => ⟨hq.1, hq.2.1, (r3.wide (fun c hc => ab_swr_ok (by decide) hc)).trans hq.2.2.1, hq.2.2.2.1.trans (me_f (c := 14030) r3 hS rfl rfl), hq.2.2.2.2⟩)
      rw [r2]
      by_cases ei : i = Int.toNat (zk - zn)
      · rw [if_pos ei, ho, if_neg (by omega), if_neg (by omega), if_neg (by omega), if_pos (by omega)]
        exact congrArg O (by omega)
      · rw [if_neg ei, ho]
        by_cases c1 : (i : Int) < za
        · rw [if_pos c1, if_pos c1]
        · rw [if_neg c1, if_neg c1]
          by_cases c2 : (i : Int) < zk - zn
          · rw [if_pos c2, if_pos (by omega)]
          · rw [if_neg c2, if_neg (by omega)]
theorem sw34x (m : Int) (ha0 : 0 ≤ za) (hn0 : 0 ≤ zn) (hab : zb = za + zn) (hbm : zb ≤ m) (hm : m ≤ 100) : ∀ (N : Nat) (zk : Int) (h : sm_H), zn - zk < N → 0 ≤ zk → zk ≤ zn → mi_f h 14016 = m → ab_Sh sx_sk h → (∀ i : Nat, (i : Int) < zk → mi_a h 145 i = mi_a h 160 (i + za.toNat)) → me_E d 226 34 [some (.inr (.inr 109)), some (.inl zb), some (.inl za), some (.inl zn), some (.inl zk)] [] h (fun w h' => w = none ∧ ab_Sh sx_sk h' ∧ ab_Fr wr_sw h h' ∧ mi_f h' 14030 = mi_f h 14030 ∧ ∀ i : Nat, mi_a h' 160 i = sw_o (mi_a h 160) za zn m i) := by
  intro N
  induction N with
  | zero => intro zk h h1 h2 h3; omega
  | succ N ih =>
    intro zk h h1 h2 h3 h4 hS hr
    have ok : mi_in zk := ⟨by omega, by omega⟩
    have on : mi_in zn := ⟨by omega, by omega⟩
    have ob : mi_in zb := ⟨by omega, by omega⟩
    have oa : mi_in za := ⟨by omega, by omega⟩
    refine mt_swB hS ob oa on ok ?_ ?_
    · intro c h3' r1 r2
      have e3 := me_nil r2
      subst e3
      have e : zk = zn := by omega
      refine sw65x (mi_a h3' 160) m ha0 hn0 hab hbm hm 200 zb h3' (by omega) (by omega) (by omega) h4 r1 (fun i hi => hr i (by omega)) (fun i => ?_)
      by_cases c1 : (i : Int) < za
      · rw [if_pos c1]
      · rw [if_neg c1, if_neg (by omega)]
    · intro c
      have br := me_ab (k := 160) (i := (za + zk).toNat) hS rfl (by decide) (by omega)
      refine ⟨by omega, fun h3' r1 r2 r3 => ?_⟩
      have e16 : mi_f h3' 14016 = mi_f h 14016 := me_f (c := 14016) r3 hS rfl rfl
      have e160 : mi_a h3' 160 = mi_a h 160 := funext fun i => me_a (k := 160) r3 hS rfl rfl
      have key := ih (zk + 1) h3' (by omega) (by omega) (by omega) (by omega) r1 (fun i hi => by
        rw [r2, e160]
        by_cases ei : i = Int.toNat zk
        · rw [if_pos ei]
          exact congrArg (mi_a h 160) (by omega)
        · rw [if_neg ei]
          exact hr i (by omega))
      rw [e160] at key
      exact key.imp (fun w h' hq => ⟨hq.1, hq.2.1, (r3.wide (fun c hc => ab_swr_ok (by decide) hc)).trans hq.2.2.1, hq.2.2.2.1.trans (me_f (c := 14030) r3 hS rfl rfl), hq.2.2.2.2⟩)
theorem gx_T_sw {h h' : sm_H} {T : List (Int × Int × Int)} {a b : Nat} (hT : gx_T h T) (hab : a ≤ b) (hb : b ≤ T.length) (e16 : mi_f h' 14016 = mi_f h 14016) (e158 : ∀ i, mi_a h' 158 i = mi_a h 158 i) (e159 : ∀ i, mi_a h' 159 i = mi_a h 159 i) (e163 : ∀ i, mx_b h' 163 i = mx_b h 163 i) (eo : ∀ i : Nat, mi_a h' 160 i = sw_o (mi_a h 160) (a : Int) ((b : Int) - a) (T.length : Int) i) : gx_T h' (gm_rot a b T) := by
  obtain ⟨t1, t2, t3⟩ := hT
  have ep : ∀ k : Nat, k < T.length → mi_a h' 160 k = mi_a h 160 (if k < a then k else if k < a + (T.length - b) then k + (b - a) else k - (T.length - b)) := by
    intro k hk
    rw [eo]
    unfold sw_o
    by_cases c1 : k < a
    · rw [if_pos c1, if_pos (by omega)]
    · rw [if_neg c1, if_neg (by omega)]
      by_cases c2 : k < a + (T.length - b)
      · rw [if_pos c2, if_pos (by omega)]
        exact congrArg (mi_a h 160) (by omega)
      · rw [if_neg c2, if_neg (by omega), if_pos (by omega)]
        exact congrArg (mi_a h 160) (by omega)
  have hp : ∀ k : Nat, k < T.length → (if k < a then k else if k < a + (T.length - b) then k + (b - a) else k - (T.length - b)) < T.length := by
    intro k hk
    split
    · omega
    · split <;> omega
  unfold gx_T
  rw [gm_rot_len, e16]
  refine ⟨t1, fun k hk => ?_, fun k j hk hj e => ?_⟩
  · rw [ep k hk, e158, e159, e163, gm_rot_get hab hb, if_pos hk]
    exact t2 _ (hp k hk)
  · rw [ep k hk, ep j hj] at e
    have := t3 _ _ (hp k hk) (hp j hj) e
    split at this
    · split at this
      · exact this
      · split at this <;> omega
    · split at this
      · split at this
        · omega
        · split at this <;> omega
      · split at this
        · omega
        · split at this <;> omega
theorem me_swapx {h : sm_H} {s : gm_S} {p : Nat × Nat} {q : List (Nat × Nat)} (hS : ab_Sh sx_sk h) (hR : gx_R h s) (hP : gm_P s = p :: q) (hq : q.length < 64) (p0 : p.2 ≠ 0) (p1 : p.1 ≤ p.2) (p2 : p.2 ≤ (gm_T s).length) : me_E d 226 0 [some (.inr (.inr 109)), none, none, none, none] [] h (fun w h' => w = none ∧ ab_Sh sx_sk h' ∧ ab_Fr wr_sw h h' ∧ gx_R h' (gm_tu s)) := by
  have b16 := me_fb (c := 14016) hS rfl
  obtain ⟨r1, r2, r3, r4, r5, r6⟩ := hR
  have r16 := r1.1
  rw [hP] at r5 r6
  rw [List.length_cons] at r5
  obtain ⟨a1, a2, a3⟩ := r6
  have a2 := a2.resolve_left p0
  have ei : (mi_f h 14030 - 1).toNat = q.length := by omega
  refine mt_swA hS ?_
  intro b
  rw [ei, a1, a2]
  refine ⟨by omega, fun h1 g1 g2 g3 => ?_⟩
  have e16 : mi_f h1 14016 = mi_f h 14016 := me_f (c := 14016) g3 hS rfl rfl
  refine (sw34x (mi_f h 14016) (by omega) (by omega) (by omega) (by omega) b16.2 200 0 h1 (by omega) (by decide) (by omega) e16 g1 (fun i hi => by omega)).imp (fun w h' hq' => ?_)
  obtain ⟨q1, q2, q3, q4, q5⟩ := hq'
  have e160 : mi_a h1 160 = mi_a h 160 := funext fun i => me_a (k := 160) g3 hS rfl rfl
  rw [e160] at q5
  have F : ab_Fr wr_sw h h' := (g3.wide (fun c hc => ab_swr_ok (by decide) hc)).trans q3
  refine ⟨q1, q2, F, ?_⟩
  have etu : gm_tu s = (gm_X s, gm_F s, gm_rot p.1 p.2 (gm_T s), gm_D s, q) := by
    unfold gm_tu
    rw [hP]
  rw [etu]
  unfold gx_R
  rw [gm_T_mk, gm_X_mk, gm_F_mk, gm_D_mk, gm_P_mk]
  refine ⟨gx_T_sw r1 p1 p2 (me_f (c := 14016) F hS rfl rfl) (fun i => me_a (k := 158) F hS rfl rfl) (fun i => me_a (k := 159) F hS rfl rfl) (fun i => me_b (k := 163) F hS rfl rfl) (fun i => ?_), (me_l (c := 14047) F hS rfl rfl).trans r2, (me_f (c := 14035) F hS rfl rfl).trans r3, (me_f (c := 14031) F hS rfl rfl).trans r4, by rw [q4, g2, r5]; omega, gx_P_fr F hS rfl _ a3⟩
  rw [q5, r16]
end GXA
/-! the growing walk purely: what holds of each of its states -/
/-- pairs whose middle must be known when they are turned -/
def gm_fl : List wk_E → List Bool → Prop
  | [], _ => True
  | e :: r, fl => if e.1 = 0 ∧ e.2.2 = 1 then gm_fl r (false :: fl) else if e.1 = 3 then (match fl with | [] => False | _ :: q => gm_fl r (true :: q)) else if e.1 = 4 then (match fl with | [] => False | b :: q => b = true ∧ gm_fl r q) else gm_fl r fl
def gm_fg (P : List (Nat × Nat)) : List Bool := P.map (fun p => decide (p.2 ≠ 0))
theorem gm_fl_o {r : List wk_E} {fl : List Bool} {a b c : Int} (h0 : ¬ (a = 0 ∧ c = 1)) (h3 : a ≠ 3) (h4 : a ≠ 4) : gm_fl ((a, b, c) :: r) fl = gm_fl r fl := by
  cases fl with
  | nil => rw [gm_fl, if_neg h0, if_neg h3, if_neg h4]
  | cons x q => rw [gm_fl, if_neg h0, if_neg h3, if_neg h4]
theorem gm_fl_1 {r : List wk_E} {fl : List Bool} {b : Int} : gm_fl ((0, b, 1) :: r) fl = gm_fl r (false :: fl) := by
  cases fl with
  | nil => rw [gm_fl, if_pos ⟨rfl, rfl⟩]
  | cons x q => rw [gm_fl, if_pos ⟨rfl, rfl⟩]
theorem gm_fl_3 {r : List wk_E} {q : List Bool} {x : Bool} {b c : Int} : gm_fl ((3, b, c) :: r) (x :: q) = gm_fl r (true :: q) := by
  rw [gm_fl, if_neg (fun e => absurd (show (3 : Int) = 0 from e.1) (by decide)), if_pos rfl]
theorem gm_fl_30 {r : List wk_E} {b c : Int} : ¬ gm_fl ((3, b, c) :: r) [] := by
  rw [gm_fl, if_neg (fun e => absurd (show (3 : Int) = 0 from e.1) (by decide)), if_pos rfl]
  exact id
theorem gm_fl_4 {r : List wk_E} {q : List Bool} {x : Bool} {b c : Int} : gm_fl ((4, b, c) :: r) (x :: q) = (x = true ∧ gm_fl r q) := by
  rw [gm_fl, if_neg (fun e => absurd (show (4 : Int) = 0 from e.1) (by decide)), if_neg (show ¬ (4 : Int) = 3 by decide), if_pos rfl]
theorem gm_fl_40 {r : List wk_E} {b c : Int} : ¬ gm_fl ((4, b, c) :: r) [] := by
  rw [gm_fl, if_neg (fun e => absurd (show (4 : Int) = 0 from e.1) (by decide)), if_neg (show ¬ (4 : Int) = 3 by decide), if_pos rfl]
  exact id
theorem gm_fl_it {g : wk_g} {r : List wk_E} {fl : List Bool} : ∀ (n : Nat) (u : Int), gm_fl (wk_it g n u ++ r) fl = gm_fl r fl := by
  intro n
  induction n with
  | zero => intro u; rfl
  | succ n ih =>
    intro u
    unfold wk_it
    by_cases c : u < 0
    · rw [if_pos c]
      rfl
    · rw [if_neg c]
      by_cases c2 : 0 ≤ g 124 u.toNat
      · rw [if_pos c2]
        show gm_fl ((0, u, 1) :: (3, 0, 0) :: (0, g 124 u.toNat, 0) :: (4, 0, 0) :: (wk_it g n (g 125 u.toNat) ++ r)) fl = _
        rw [gm_fl_1, gm_fl_3, gm_fl_o (by omega) (by decide) (by decide), gm_fl_4, ih]
        exact propext ⟨fun h => h.2, fun h => ⟨rfl, h⟩⟩
      · rw [if_neg c2]
        show gm_fl ((0, u, 0) :: (wk_it g n (g 125 u.toNat) ++ r)) fl = _
        rw [gm_fl_o (by omega) (by decide) (by decide), ih]
def gm_I (c : gm_C) : Prop := gm_D c.2 = gm_outs c.1 ∧ gm_D c.2 ≤ gm_len c.2 ∧ (1 ≤ gm_len c.2 ∧ gm_len c.2 ≤ 100) ∧ (-(gm_len c.2) ≤ gm_F c.2 ∧ gm_F c.2 ≤ 20) ∧ gm_fl c.1 (gm_fg (gm_P c.2))
section GMI
variable {g : wk_g} {kw : Int → Bool} {s : gm_S} {r : List wk_E} {c : gm_C}
theorem gm_outs_o {a b z : Int} (h : a ≠ 2) : gm_outs ((a, b, z) :: r) = gm_outs r := by
  show (if a = 2 then 1 else 0) + gm_outs r = _
  rw [if_neg h, Int.zero_add]
theorem gm_outs_2 {b z : Int} : gm_outs ((2, b, z) :: r) = 1 + gm_outs r := by
  show (if (2 : Int) = 2 then 1 else 0) + gm_outs r = _
  rw [if_pos rfl]
/-- one more node: what a state is then -/
theorem gm_c_e {k v : Int} {t : gm_S} (h : gm_c k v s = some t) : gm_len s < 100 ∧ gm_len t = gm_len s + 1 ∧ gm_F t = gm_F s ∧ gm_D t = gm_D s ∧ gm_P t = gm_P s := by
  obtain ⟨a1, a2⟩ := gm_c_len h
  obtain ⟨-, b2, -, b4, b5⟩ := gm_c_t h
  unfold gm_len
  exact ⟨by omega, by omega, b2, b4, b5⟩
theorem gm_d_e {t : gm_S} : gm_len (gm_d t) = gm_len t ∧ gm_F (gm_d t) = gm_F t ∧ gm_D (gm_d t) = gm_D t + 1 ∧ gm_P (gm_d t) = gm_P t := by
  unfold gm_d gm_len
  rw [gm_T_mk, gm_F_mk, gm_D_mk, gm_P_mk]
  exact ⟨rfl, rfl, rfl, rfl⟩
theorem gm_y_e : gm_len (gm_y s) = gm_len s ∧ gm_F (gm_y s) = gm_F s ∧ gm_D (gm_y s) = gm_D s ∧ gm_P (gm_y s) = gm_P s := by
  unfold gm_y gm_len
  rw [gm_T_mk, gm_F_mk, gm_D_mk, gm_P_mk]
  exact ⟨rfl, rfl, rfl, rfl⟩
/-- what holds, of the rest of the stack -/
def gm_J (r : List wk_E) (s : gm_S) : Prop := gm_D s = gm_outs r ∧ gm_D s ≤ gm_len s ∧ (1 ≤ gm_len s ∧ gm_len s ≤ 100) ∧ (-(gm_len s) ≤ gm_F s ∧ gm_F s ≤ 20) ∧ gm_fl r (gm_fg (gm_P s))
theorem gm_en_I {i : Int} (hJ : gm_J r s) (h : gm_en g i r s = some c) : gm_I c := by
  unfold gm_en at h
  split at h
  · cases h
  · obtain ⟨t, t1, t2⟩ := Option.map_eq_some_iff.mp h
    subst t2
    obtain ⟨a1, a2, a3, a4, a5⟩ := gm_c_e t1
    obtain ⟨d1, d2, d3, d4⟩ := gm_d_e (t := t)
    have el : gm_len (gm_X s, gm_F s - 1, gm_T s, gm_D s, gm_P s) = gm_len s := by unfold gm_len; rw [gm_T_mk]
    rw [el] at a1 a2
    simp only [gm_F_mk] at a3
    simp only [gm_D_mk] at a4
    simp only [gm_P_mk] at a5
    obtain ⟨j1, j2, j3, j4, j5⟩ := hJ
    unfold gm_I
    dsimp only
    rw [d1, d2, d3, d4, a2, a3, a4, a5, gm_outs_o (by decide), gm_outs_2, gm_fl_o (by omega) (by decide) (by decide), gm_fl_o (by omega) (by decide) (by decide)]
    exact ⟨by omega, by omega, by omega, by omega, j5⟩
theorem gm_lf_I {o : Int} {t : gm_S} (hJ : gm_J r s) (h : gm_lf kw o s = some t) : gm_J r t := by
  have fin : ∀ (k v : Int) (x : Int64), gm_c k v (x, gm_F s, gm_T s, gm_D s, gm_P s) = some t → gm_J r t := by
    intro k v x h
    obtain ⟨a1, a2, a3, a4, a5⟩ := gm_c_e h
    have el : gm_len (x, gm_F s, gm_T s, gm_D s, gm_P s) = gm_len s := by unfold gm_len; rw [gm_T_mk]
    rw [el] at a1 a2
    simp only [gm_F_mk] at a3
    simp only [gm_D_mk] at a4
    simp only [gm_P_mk] at a5
    obtain ⟨j1, j2, j3, j4, j5⟩ := hJ
    unfold gm_J
    rw [a2, a3, a4, a5]
    exact ⟨by omega, by omega, by omega, by omega, j5⟩
  unfold gm_lf at h
  split at h
  · exact fin _ _ _ h
  · split at h
    · exact fin _ _ _ h
    · injection h with h
      subst h
      exact hJ
theorem gm_sg_I {u : Int} (hJ : gm_J r s) (h : gm_sg g kw u r s = some c) : gm_I c := by
  by_cases c9 : g 119 u.toNat = 9
  · unfold gm_sg at h
    rw [if_pos c9] at h
    exact gm_en_I hJ h
  · by_cases c10 : g 119 u.toNat = 10
    · unfold gm_sg at h
      rw [if_neg c9, if_pos c10] at h
      injection h with h
      subst h
      obtain ⟨j1, j2, j3, j4, j5⟩ := hJ
      unfold gm_I
      dsimp only
      rw [gm_outs_o (by decide), gm_fl_o (by omega) (by decide) (by decide)]
      exact ⟨j1, j2, j3, j4, j5⟩
    · rw [gm_sg_lf c9 c10] at h
      obtain ⟨t, t1, t2⟩ := Option.map_eq_some_iff.mp h
      subst t2
      exact gm_lf_I hJ t1
theorem gm_op_J {o u : Int} (h : gm_I ((0, u, o) :: r, s)) : gm_J r (gm_op o s) := by
  obtain ⟨j1, j2, j3, j4, j5⟩ := h
  dsimp only at j1 j2 j3 j4 j5
  rw [gm_outs_o (by decide)] at j1
  by_cases c1 : o = 1
  · subst c1
    rw [gm_fl_1] at j5
    unfold gm_op gm_J gm_len
    simp only [if_pos, gm_T_mk, gm_F_mk, gm_D_mk, gm_P_mk]
    exact ⟨j1, j2, j3, j4, j5⟩
  · rw [gm_fl_o (fun e => c1 e.2) (by decide) (by decide)] at j5
    unfold gm_op
    rw [if_neg c1]
    exact ⟨j1, j2, j3, j4, j5⟩
theorem gm_u_I {u : Int} (hJ : gm_J r s) (h : gm_u g kw u r s = some c) : gm_I c := by
  obtain ⟨y1, y2, y3, y4⟩ := gm_y_e (s := s)
  unfold gm_u at h
  split at h
  · obtain ⟨t, t1, t2⟩ := Option.map_eq_some_iff.mp h
    subst t2
    obtain ⟨a1, a2, a3, a4, a5⟩ := gm_c_e t1
    obtain ⟨d1, d2, d3, d4⟩ := gm_d_e (t := t)
    obtain ⟨j1, j2, j3, j4, j5⟩ := hJ
    unfold gm_I
    dsimp only
    rw [d1, d2, d3, d4, a2, a3, a4, a5, y1, y2, y3, y4, gm_outs_o (by decide), gm_outs_2, gm_fl_o (by omega) (by decide) (by decide), gm_fl_o (by omega) (by decide) (by decide)]
    exact ⟨by omega, by omega, by omega, by omega, j5⟩
  · split at h
    · obtain ⟨t, t1, t2⟩ := Option.bind_eq_some_iff.mp h
      obtain ⟨a1, a2, a3, a4, a5⟩ := gm_c_e t1
      obtain ⟨d1, d2, d3, d4⟩ := gm_d_e (t := t)
      have hJ2 : gm_J ((2, 0, 0) :: r) (gm_d t) := by
        obtain ⟨j1, j2, j3, j4, j5⟩ := hJ
        unfold gm_J
        rw [d1, d2, d3, d4, a2, a3, a4, a5, y1, y2, y3, y4, gm_outs_2, gm_fl_o (by omega) (by decide) (by decide)]
        exact ⟨by omega, by omega, by omega, by omega, j5⟩
      split at t2
      · exact gm_sg_I hJ2 t2
      · injection t2 with t2
        subst t2
        exact hJ2
    · exact gm_sg_I hJ h
theorem gm_st_1 {f a : Int} : gm_st g kw (1, f, a) r s = gm_fo g f r s := by
  unfold gm_st gm_fo
  rw [if_neg (show ¬ (1 : Int) = 0 by decide), if_pos rfl]
theorem gm_st_5 {u a : Int} : gm_st g kw (5, u, a) r s = gm_ag g kw u a r s := by
  unfold gm_st gm_ag
  rw [if_neg (show ¬ (5 : Int) = 0 by decide), if_neg (show ¬ (5 : Int) = 1 by decide), if_pos rfl]
theorem gm_st_2 {u a : Int} : gm_st g kw (2, u, a) r s = some (r, (gm_X s, gm_F s, gm_T s, gm_D s - 1, gm_P s)) := by
  unfold gm_st
  rw [if_neg (show ¬ (2 : Int) = 0 by decide), if_neg (show ¬ (2 : Int) = 1 by decide), if_neg (show ¬ (2 : Int) = 5 by decide), if_pos rfl]
theorem gm_st_3 {u a : Int} : gm_st g kw (3, u, a) r s = some (r, gm_mid s) := by
  unfold gm_st
  rw [if_neg (show ¬ (3 : Int) = 0 by decide), if_neg (show ¬ (3 : Int) = 1 by decide), if_neg (show ¬ (3 : Int) = 5 by decide), if_neg (show ¬ (3 : Int) = 2 by decide), if_pos rfl]
theorem gm_st_4 {u a : Int} : gm_st g kw (4, u, a) r s = some (r, gm_tu s) := by
  unfold gm_st
  rw [if_neg (show ¬ (4 : Int) = 0 by decide), if_neg (show ¬ (4 : Int) = 1 by decide), if_neg (show ¬ (4 : Int) = 5 by decide), if_neg (show ¬ (4 : Int) = 2 by decide), if_neg (show ¬ (4 : Int) = 3 by decide)]
theorem gm_fo_I {f : Int} (hJ : gm_J r s) (h : gm_fo g f r s = some c) : gm_I c := by
  obtain ⟨y1, y2, y3, y4⟩ := gm_y_e (s := s)
  unfold gm_fo at h
  split at h
  · obtain ⟨t, t1, t2⟩ := Option.map_eq_some_iff.mp h
    subst t2
    obtain ⟨a1, a2, a3, a4, a5⟩ := gm_c_e t1
    obtain ⟨d1, d2, d3, d4⟩ := gm_d_e (t := t)
    obtain ⟨j1, j2, j3, j4, j5⟩ := hJ
    unfold gm_I
    dsimp only
    rw [d1, d2, d3, d4, a2, a3, a4, a5, y1, y2, y3, y4, gm_outs_a, gm_outs_it, gm_outs_2, gm_fl_it, gm_fl_o (by omega) (by decide) (by decide)]
    exact ⟨by omega, by omega, by omega, by omega, j5⟩
  · injection h with h
    subst h
    obtain ⟨j1, j2, j3, j4, j5⟩ := hJ
    unfold gm_I
    dsimp only
    rw [gm_outs_a, gm_outs_it, gm_fl_it]
    exact ⟨by omega, j2, j3, j4, j5⟩
theorem gm_J_of {e : wk_E} (h : gm_I (e :: r, s)) (h0 : ¬ (e.1 = 0 ∧ e.2.2 = 1)) (h2 : e.1 ≠ 2) (h3 : e.1 ≠ 3) (h4 : e.1 ≠ 4) : gm_J r s := by
  obtain ⟨a, b, z⟩ := e
  obtain ⟨j1, j2, j3, j4, j5⟩ := h
  dsimp only at j1 j2 j3 j4 j5
  rw [gm_outs_o h2] at j1
  rw [gm_fl_o h0 h3 h4] at j5
  exact ⟨j1, j2, j3, j4, j5⟩
/-- all turns keep it, of the entries that there are -/
theorem gm_st_I {e : wk_E} (he : e.1 = 0 ∨ e.1 = 1 ∨ e.1 = 2 ∨ e.1 = 3 ∨ e.1 = 4 ∨ e.1 = 5) (hI : gm_I (e :: r, s)) (h : gm_st g kw e r s = some c) : gm_I c := by
  obtain ⟨a, b, z⟩ := e
  dsimp only at he
  rcases he with rfl | rfl | rfl | rfl | rfl | rfl
  · rw [gm_st_0] at h
    exact gm_u_I (gm_op_J hI) h
  · rw [gm_st_1] at h
    exact gm_fo_I (gm_J_of hI (fun e => absurd (show (1 : Int) = 0 from e.1) (by decide)) (show (1 : Int) ≠ 2 by decide) (show (1 : Int) ≠ 3 by decide) (show (1 : Int) ≠ 4 by decide)) h
  · rw [gm_st_2] at h
    injection h with h
    subst h
    obtain ⟨j1, j2, j3, j4, j5⟩ := hI
    dsimp only at j1 j2 j3 j4 j5
    rw [gm_outs_2] at j1
    rw [gm_fl_o (by omega) (by decide) (by decide)] at j5
    unfold gm_I gm_len
    dsimp only
    simp only [gm_T_mk, gm_F_mk, gm_D_mk, gm_P_mk]
    unfold gm_len at j2 j3 j4
    exact ⟨by omega, by omega, j3, j4, j5⟩
  · rw [gm_st_3] at h
    injection h with h
    subst h
    obtain ⟨j1, j2, j3, j4, j5⟩ := hI
    dsimp only at j1 j2 j3 j4 j5
    rw [gm_outs_o (by decide)] at j1
    unfold gm_mid gm_I gm_len
    dsimp only
    simp only [gm_T_mk, gm_F_mk, gm_D_mk, gm_P_mk]
    unfold gm_len at j2 j3 j4
    refine ⟨j1, j2, j3, j4, ?_⟩
    cases hP : gm_P s with
    | nil =>
      rw [hP] at j5
      exact absurd j5 gm_fl_30
    | cons p q =>
      rw [hP] at j5
      have j5 : gm_fl ((3, b, z) :: r) (decide (p.2 ≠ 0) :: gm_fg q) := j5
      rw [gm_fl_3] at j5
      have et : decide ((gm_T s).length ≠ 0) = true := decide_eq_true (by omega)
      show gm_fl r (decide ((gm_T s).length ≠ 0) :: gm_fg q)
      rw [et]
      exact j5
  · rw [gm_st_4] at h
    injection h with h
    subst h
    obtain ⟨j1, j2, j3, j4, j5⟩ := hI
    dsimp only at j1 j2 j3 j4 j5
    rw [gm_outs_o (by decide)] at j1
    cases hP : gm_P s with
    | nil =>
      rw [hP] at j5
      exact absurd j5 gm_fl_40
    | cons p q =>
      rw [hP] at j5
      have j5 : gm_fl ((4, b, z) :: r) (decide (p.2 ≠ 0) :: gm_fg q) := j5
      rw [gm_fl_4] at j5
      have etu : gm_tu s = (gm_X s, gm_F s, gm_rot p.1 p.2 (gm_T s), gm_D s, q) := by
        unfold gm_tu
        rw [hP]
      rw [etu]
      unfold gm_I gm_len
      dsimp only
      simp only [gm_T_mk, gm_F_mk, gm_D_mk, gm_P_mk, gm_rot_len]
      unfold gm_len at j2 j3 j4
      exact ⟨j1, j2, j3, j4, j5.2⟩
  · rw [gm_st_5] at h
    have hJ := gm_J_of hI (fun e => absurd (show (5 : Int) = 0 from e.1) (by decide)) (show (5 : Int) ≠ 2 by decide) (show (5 : Int) ≠ 3 by decide) (show (5 : Int) ≠ 4 by decide)
    unfold gm_ag at h
    split at h
    · have hJ2 : gm_J ((5, b, z - 1) :: r) s := by
        obtain ⟨j1, j2, j3, j4, j5⟩ := hJ
        unfold gm_J
        rw [gm_outs_o (by decide), gm_fl_o (by omega) (by decide) (by decide)]
        exact ⟨j1, j2, j3, j4, j5⟩
      exact gm_sg_I hJ2 h
    · injection h with h
      subst h
      exact hJ
end GMI
/-! the growing walk of the reference, exactly: the loop -/
section GLP
variable {g g' : wk_g} {kw : Int → Bool} {s : gm_S} {r : List wk_E}
theorem gm_lo_g (hg : wk_gc g g') (h3 : ∀ i, g' 143 i = g 143 i) : ∀ (m : Nat) (a n b hi : Int), gm_lo g' m a n b hi = gm_lo g m a n b hi := by
  intro m
  induction m with
  | zero => intro a n b hi; rw [gm_lo_0, gm_lo_0]
  | succ m ih => intro a n b hi; rw [gm_lo_s, gm_lo_s, hg 128 (by decide), h3, ih]
theorem gm_w_g (hg : wk_gc g g') (h3 : ∀ i, g' 143 i = g 143 i) {f : Int} : gm_w g' f s = gm_w g f s := by
  unfold gm_w
  rw [gm_lo_g hg h3, hg 130 (by decide), hg 129 (by decide)]
theorem gm_fo_g (hg : wk_gc g g') (h3 : ∀ i, g' 143 i = g 143 i) {f : Int} : gm_fo g' f r s = gm_fo g f r s := by
  unfold gm_fo
  rw [gm_w_g hg h3, hg 130 (by decide), hg 129 (by decide), wk_alt_g hg, hg 126 (by decide), wk_it_g hg, hg 126 (by decide), wk_it_g hg]
theorem gm_u_g (hg : wk_gc g g') {u : Int} : gm_u g' kw u r s = gm_u g kw u r s := by
  unfold gm_u
  rw [hg 122 (by decide), gm_sg_g hg]
  simp only [gm_sg_g hg]
theorem gm_ag_g (hg : wk_gc g g') {u a : Int} : gm_ag g' kw u a r s = gm_ag g kw u a r s := by
  unfold gm_ag
  rw [gm_sg_g hg]
end GLP
def gl_TT : Int → sm_H → Prop := fun _ _ => True
def gl_I (Y : wk_Y) (h0 : sm_H) (c0 : gm_C) (zt : Int) (h : sm_H) : Prop := wl_I Y h0 1 gl_TT zt h ∧ ∃ s, gx_R h s ∧ gm_to (mi_a h0) (gx_k h0) zt.toNat c0 (wk_stk h, s) ∧ gm_I (wk_stk h, s)
def gl_H (Y : wk_Y) (h0 : sm_H) (c0 : gm_C) (zt : Int) (h : sm_H) : Prop := (ab_Sh sx_sk h ∧ ab_Fr wr_WK h0 h ∧ mi_f h 14044 = 1 ∧ ∃ n, gm_no (mi_a h0) (gx_k h0) n c0) ∨ gl_I Y h0 c0 zt h
def gl_End (Y : wk_Y) (h0 : sm_H) (c0 : gm_C) (w : Option mi_V) (h' : sm_H) : Prop := w = none ∧ ab_Sh sx_sk h' ∧ ab_Fr wr_WK h0 h' ∧ ((mi_f h' 14044 = 1 ∧ ∃ n, gm_no (mi_a h0) (gx_k h0) n c0) ∨ ∃ zt, 0 ≤ zt ∧ zt ≤ 40000 ∧ (wk_stk h' = [] ∨ zt = 40000) ∧ gl_I Y h0 c0 zt h')
theorem gl_T {Y : wk_Y} {h0 : sm_H} : wl_T Y h0 1 gl_TT := by
  refine ⟨fun e => absurd e (by decide), fun e => absurd e (by decide), ?_, fun e => absurd e (by decide), fun e => absurd e (by decide), fun e => absurd e (by decide)⟩
  intros
  exact trivial
section GLM
variable {d : Nat} {h0 : sm_H} {Y : wk_Y} {c0 : gm_C} {zt : Int}
theorem gl_next {h h1 h' : sm_H} {e : wk_E} {s : gm_S} {v : Option mi_V} {hq : sm_H} (he : e.1 = 0 ∨ e.1 = 1 ∨ e.1 = 2 ∨ e.1 = 3 ∨ e.1 = 4 ∨ e.1 = 5) (z0 : 0 ≤ zt) (hst : wk_stk h = e :: wk_stk h1) (hto : gm_to (mi_a h0) (gx_k h0) zt.toNat c0 (wk_stk h, s)) (hI : gm_I (wk_stk h, s)) (hW : wl_H Y h0 1 gl_TT (zt + 1) h') (hU : ux_Q hq (gm_st (mi_a h0) (gx_k h0) e (wk_stk h1) s) v h') : gl_H Y h0 c0 (zt + 1) h' := by
  rw [hst] at hto hI
  have et : (zt + 1).toNat = zt.toNat + 1 := by omega
  obtain ⟨-, u1, u2⟩ := hU
  rcases hW with ⟨w1, w2, w3⟩ | hI'
  · have w3 : mi_f h' 14044 = 1 := by
      rcases w3 with w3 | ⟨w3, -⟩
      · exact w3
      · exact absurd w3 (by decide)
    rcases u2 with ⟨u2, -⟩ | ⟨u2, -⟩
    · exact Or.inl ⟨w1, w2, w3, _, gm_appn (gm_none u2) _ _ hto⟩
    · exfalso; omega
  · have i4 := hI'.1.2.2.2.1
    rcases u2 with ⟨-, u2⟩ | ⟨-, c, u3, u4, u5, u6⟩
    · exfalso; omega
    · refine Or.inr ⟨hI', c.2, u5, ?_, ?_⟩
      · rw [et, u4]
        exact gm_app (gm_one u3) _ _ hto
      · rw [u4]
        exact gm_st_I he hI u3
theorem gl_in {h h1 : sm_H} {s : gm_S} {e : wk_E} (hi : wk_in 1 h1) (hS : ab_Sh sx_sk h) (g3 : ab_Fr [(14029, 14030)] h h1) (hR : gx_R h s) (hI : gm_I (e :: wk_stk h1, s)) : gx_in h1 s := by
  obtain ⟨i1, i2, i3, i4, i5, i6, i7, i8, i9, i10, i11⟩ := hi
  obtain ⟨j1, j2, j3, j4, -⟩ := hI
  dsimp only at j1 j2 j3 j4
  have := gm_outs_nn (e :: wk_stk h1)
  exact ⟨i1, i2, i4, i7, i10.symm, i8, i9, gx_R_fr hR g3 hS rfl rfl rfl rfl, by omega, by omega, by omega⟩
theorem gl_g {h h1 : sm_H} (hS0 : ab_Sh sx_sk h0) (hS : ab_Sh sx_sk h) (hF : ab_Fr wr_WK h0 h) (g3 : ab_Fr [(14029, 14030)] h h1) : wk_gc (mi_a h0) (mi_a h1) ∧ (∀ i, mi_a h1 143 i = mi_a h0 143 i) ∧ gx_k h1 = gx_k h0 := by
  have F : ab_Fr wr_WK h0 h1 := hF.trans (g3.wide (fun c hc => ab_swr_ok (by decide) hc))
  exact ⟨wk_gc_fr F hS0 rfl, fun i => me_a (k := 143) F hS0 rfl rfl, gx_k_fr F hS0 rfl rfl⟩
/-- a unit on the top -/
theorem gl_u {h h1 : sm_H} {w a : Int} (hS0 : ab_Sh sx_sk h0) (hL : wk_L (mi_a h) Y) (hG : gl_I Y h0 c0 zt h) (z0 : 0 ≤ zt) (z1 : zt < 40000) (ht : 0 < mi_f h 14029) (g1 : ab_Sh sx_sk h1) (g2 : mi_f h1 14029 = mi_f h 14029 - 1) (g3 : ab_Fr [(14029, 14030)] h h1) (e0 : mi_a h 165 (mi_f h 14029 - 1).toNat = 0) (ew : mi_a h 166 (mi_f h 14029 - 1).toNat = w) (ea : mi_a h 167 (mi_f h 14029 - 1).toNat = a) (ha : a = 0 ∨ a = 1) : me_E (d + 6) 210 0 [some (.inr (.inr 109)), some (.inl w), some (.inl a), none, none] [] h1 (fun v h' => v = none ∧ gl_H Y h0 c0 (zt + 1) h') := by
  obtain ⟨hI, s, hR, hto, hJ⟩ := hG
  obtain ⟨e1, hg, hn, hag, hK2, hV2, hZ, e30, e32, e16, hlen⟩ := wl_pop hI ht g1 g2 g3
  rw [e0, ew, ea] at e1
  have hSI := hI.2.2.1
  rw [e1] at hSI
  have hU : wk_U Y w ((wk_stk h1).length : Int) (mi_f h 14030) (mi_f h 14032) (1 - a) := by
    rcases ha with rfl | rfl
    · exact (wk_unit0 hSI).1
    · exact (wk_unit1 hSI).1
  obtain ⟨u1, u2, u3, u4, u5, u6, u7⟩ := hU
  obtain ⟨⟨a1, -, -, a4, a5⟩, -⟩ := hL.2.2.1 w u1 u2
  have hd := (hL.2.2.2 _ a4 a5).2.1
  have hi := wl_in1 hI ht g1 g2 g3 (by omega)
  have hJ' := hJ
  rw [e1] at hJ'
  obtain ⟨k1, k2, k3⟩ := gl_g hS0 hI.1.1 hI.2.1 g3
  refine ((wl_u (d := d) gl_T hL hI z0 z1 ht g1 g2 g3 e0 ew ea ha).and (me_unitx (d := d) (gl_in hi hI.1.1 g3 hR hJ') (by have j2 := hJ'.2.1; have j3 := hJ'.2.2.1.2; dsimp only at j2 j3; omega) (wl_us hL hg u1 u2) (by omega) ha (fun z => by omega))).imp (fun v h' hq => ?_)
  obtain ⟨⟨q1, q2⟩, q3⟩ := hq
  refine ⟨q1, ?_⟩
  rw [gm_st_0, gm_u_g k1, k3, ← gm_st_0] at q3
  exact gl_next (Or.inl rfl) z0 e1 hto hJ q2 q3
theorem gl_f {h h1 : sm_H} {f a : Int} (hS0 : ab_Sh sx_sk h0) (hL : wk_L (mi_a h) Y) (hG : gl_I Y h0 c0 zt h) (z0 : 0 ≤ zt) (z1 : zt < 40000) (ht : 0 < mi_f h 14029) (g1 : ab_Sh sx_sk h1) (g2 : mi_f h1 14029 = mi_f h 14029 - 1) (g3 : ab_Fr [(14029, 14030)] h h1) (e0 : mi_a h 165 (mi_f h 14029 - 1).toNat = 1) (ew : mi_a h 166 (mi_f h 14029 - 1).toNat = f) (ea : mi_a h 167 (mi_f h 14029 - 1).toNat = a) : me_E (d + 6) 223 0 [some (.inr (.inr 109)), some (.inl f), none, none, none, none] [] h1 (fun v h' => v = none ∧ gl_H Y h0 c0 (zt + 1) h') := by
  obtain ⟨hI, s, hR, hto, hJ⟩ := hG
  obtain ⟨e1, hg, hn, hag, hK2, hV2, hZ, e30, e32, e16, hlen⟩ := wl_pop hI ht g1 g2 g3
  rw [e0, ew, ea] at e1
  have hSI := hI.2.2.1
  rw [e1] at hSI
  obtain ⟨hF, hb⟩ := wk_form hSI
  have hL1 : wk_L (mi_a h1) Y := wk_L_g hL hg
  obtain ⟨f1, f2, -⟩ := id hF
  obtain ⟨d1, d2, d3, d4, dB, d5⟩ := hL1.2.2.2 f f1 f2
  have hf80 := hL.2.1
  have hi := wl_in1 hI ht g1 g2 g3 (by omega)
  have hJ' := hJ
  rw [e1] at hJ'
  obtain ⟨k1, k2, k3⟩ := gl_g hS0 hI.1.1 hI.2.1 g3
  refine ((wl_f (d := d) gl_T hL hI z0 z1 ht g1 g2 g3 e0 ew ea).and (me_choosex (d := d) (U := wk_u Y) (gl_in hi hI.1.1 g3 hR hJ') f1 (by omega) ⟨d3, d4, fun j hj => ⟨(d5 j hj).1, (d5 j hj).2.1⟩⟩ (wk_L_C hL1) (fun j hj => ?_) (fun j hj => ?_))).imp (fun v h' hq => ?_)
  · rcases (d5 j hj).2.2 with x | x
    · exact Or.inl x
    · exact Or.inr x.1
  · have := (wl_D hL1 hF hb hj).1
    omega
  · obtain ⟨⟨q1, q2⟩, q3⟩ := hq
    refine ⟨q1, ?_⟩
    have q3 := gx_Q_u (h := h1) q3
    rw [gm_fo_g k1 k2, ← gm_st_1 (kw := gx_k h0) (a := a)] at q3
    exact gl_next (Or.inr (Or.inl rfl)) z0 e1 hto hJ q2 q3
theorem gl_a {h h1 : sm_H} {w a : Int} (hS0 : ab_Sh sx_sk h0) (hL : wk_L (mi_a h) Y) (hG : gl_I Y h0 c0 zt h) (z0 : 0 ≤ zt) (z1 : zt < 40000) (ht : 0 < mi_f h 14029) (g1 : ab_Sh sx_sk h1) (g2 : mi_f h1 14029 = mi_f h 14029 - 1) (g3 : ab_Fr [(14029, 14030)] h h1) (e0 : mi_a h 165 (mi_f h 14029 - 1).toNat = 5) (ew : mi_a h 166 (mi_f h 14029 - 1).toNat = w) (ea : mi_a h 167 (mi_f h 14029 - 1).toNat = a) : me_E (d + 6) 227 0 [some (.inr (.inr 109)), some (.inl w), some (.inl a), none] [] h1 (fun v h' => v = none ∧ gl_H Y h0 c0 (zt + 1) h') := by
  obtain ⟨hI, s, hR, hto, hJ⟩ := hG
  obtain ⟨e1, hg, hn, hag, hK2, hV2, hZ, e30, e32, e16, hlen⟩ := wl_pop hI ht g1 g2 g3
  rw [e0, ew, ea] at e1
  have oa : mi_in a := by rw [← ea]; exact mi_inT _
  have hSI := hI.2.2.1
  rw [e1] at hSI
  obtain ⟨⟨u1, u2, u3, u4, u5, u6, u7⟩, hb⟩ := wk_again hSI
  obtain ⟨⟨a1, -⟩, -⟩ := hL.2.2.1 w u1 u2
  have hi := wl_in1 hI ht g1 g2 g3 (by omega)
  have hJ' := hJ
  rw [e1] at hJ'
  obtain ⟨k1, k2, k3⟩ := gl_g hS0 hI.1.1 hI.2.1 g3
  refine ((wl_a (d := d) gl_T hL hI z0 z1 ht g1 g2 g3 e0 ew ea).and (me_againx (d := d) (gl_in hi hI.1.1 g3 hR hJ') (wl_us hL hg u1 u2) (by omega) oa)).imp (fun v h' hq => ?_)
  obtain ⟨⟨q1, q2⟩, q3⟩ := hq
  refine ⟨q1, ?_⟩
  have q3 := gx_Q_u (h := h1) q3
  rw [gm_ag_g k1, k3, ← gm_st_5] at q3
  exact gl_next (Or.inr (Or.inr (Or.inr (Or.inr (Or.inr rfl))))) z0 e1 hto hJ q2 q3
/-- what only takes the top away -/
theorem gl_ux {h' hq : sm_H} {r : List wk_E} {t : gm_S} (q1 : ab_Sh sx_sk h') (e44 : mi_f h' 14044 = 0) (est : wk_stk h' = r) (hR : gx_R h' t) (e32 : mi_f h' 14032 = wk_ul r) : ux_Q hq (some (r, t)) none h' := ⟨rfl, q1, Or.inr ⟨e44, (r, t), rfl, est, hR, e32⟩⟩
theorem gl_247 {zh : Int} {q3 q4 : Option mi_V} {h : sm_H} (oh : mi_in zh) (ot : mi_in zt) (o3 : ∀ v, q3 = some v → mi_ok v) (o4 : ∀ v, q4 = some v → mi_ok v) (h1 : 0 ≤ zt) (h2 : zt ≤ 40000) (hH : gl_H Y h0 c0 zt h) (he : wl_I Y h0 1 gl_TT zt h → mi_f h 14029 ≤ 0 ∨ zt = 40000) : me_E (d + 7) 206 247 [some (.inr (.inr 109)), some (.inl zh), some (.inl zt), q3, q4] [] h (gl_End Y h0 c0) := by
  have hS : ab_Sh sx_sk h := by
    rcases hH with hH | hH
    · exact hH.1
    · exact hH.1.1.1
  have fin : gl_End Y h0 c0 none h := by
    rcases hH with ⟨k1, k2, k3⟩ | hG
    · exact ⟨rfl, k1, k2, Or.inl k3⟩
    · have hI := hG.1
      refine ⟨rfl, hS, hI.2.1, Or.inr ⟨zt, h1, h2, ?_, hG⟩⟩
      rcases he hI with e | e
      · refine Or.inl ?_
        have := hI.1.2.2.2.2.2.2.1
        have e0 : mi_f h 14029 = 0 := by omega
        unfold wk_stk
        rw [e0]
        rfl
      · exact Or.inr e
  refine mt_waE hS oh ot o3 o4 ?_ ?_ ?_ ?_ ?_
  · intro b c h3 r1 r2
    have e3 := me_nil r2
    subst e3
    exact fin
  · intro b1 b2 c1 c2 h3 r1 r2
    have e3 := me_nil r2
    subst e3
    exact fin
  · intro b1 b2 b3 c1 c2 c3 h3 r1 r2
    have e3 := me_nil r2
    subst e3
    exact fin
  · intro b1 b2 b3 b4 c1 c2 c3
    rcases hH with hH | hG
    · have := hH.2.2.1
      exfalso; omega
    · have := hG.1.1.2.1
      exfalso; omega
  · intro b1 b2 b3 b4 c1 c2 c3
    rcases hH with hH | hG
    · have := hH.2.2.1
      exfalso; omega
    · have := hG.1.1.2.1
      exfalso; omega
theorem gl_loop {zh : Int} (hS0 : ab_Sh sx_sk h0) (hL0 : wk_L (mi_a h0) Y) (oh : mi_in zh) : ∀ (N : Nat) (zt : Int) (q3 q4 : Option mi_V) (h : sm_H), 40000 - zt < N → 0 ≤ zt → zt ≤ 40000 → (∀ v, q3 = some v → mi_ok v) → (∀ v, q4 = some v → mi_ok v) → gl_H Y h0 c0 zt h → me_E (d + 7) 206 52 [some (.inr (.inr 109)), some (.inl zh), some (.inl zt), q3, q4] [] h (gl_End Y h0 c0) := by
  intro N
  induction N with
  | zero => intro zt q3 q4 h hN z0 z1; exfalso; omega
  | succ N ih =>
    intro zt q3 q4 h hN z0 z1 o3 o4 hH
    have ot : mi_in zt := ⟨by omega, by omega⟩
    have hS : ab_Sh sx_sk h := by
      rcases hH with hH | hH
      · exact hH.1
      · exact hH.1.1.1
    have toI : mi_f h 14044 = 0 → gl_I Y h0 c0 zt h := fun b => by
      rcases hH with hH | hH
      · exfalso
        have := hH.2.2.1
        omega
      · exact hH
    have o2 : ∀ x : Int32, ∀ v : mi_V, some (Sum.inl x.toInt : mi_V) = some v → mi_ok v := fun x v e => by
      cases e
      exact mi_inT x
    have nx : ∀ (x y : Int32) (h' : sm_H), zt < 40000 → gl_H Y h0 c0 (zt + 1) h' → ab_Sh sx_sk h' ∧ me_E (d + 7) 206 52 [some (.inr (.inr 109)), some (.inl zh), some (.inl (zt + 1)), some (.inl x.toInt), some (.inl y.toInt)] [] h' (gl_End Y h0 c0) := fun x y h' hlt hq => by
      refine ⟨?_, ih (zt + 1) _ _ h' (by omega) (by omega) (by omega) (o2 x) (o2 y) hq⟩
      rcases hq with hq | hq
      · exact hq.1
      · exact hq.1.1.1
    have nx175 : ∀ (x y : Int32) (h' : sm_H), zt < 40000 → gl_H Y h0 c0 (zt + 1) h' → me_E (d + 7) 206 175 [some (.inr (.inr 109)), some (.inl zh), some (.inl zt), some (.inl x.toInt), some (.inl y.toInt)] [] h' (gl_End Y h0 c0) := fun x y h' hlt hq => mt_wb175 (nx x y h' hlt hq).1 oh ot (mi_inT x) (mi_inT y) ⟨by omega, fun h3 r1 r2 => by
      have e3 := me_nil r2
      subst e3
      exact (nx x y _ hlt hq).2⟩
    have nx183 : ∀ (x y : Int32) (h' : sm_H), zt < 40000 → gl_H Y h0 c0 (zt + 1) h' → me_E (d + 7) 206 183 [some (.inr (.inr 109)), some (.inl zh), some (.inl zt), some (.inl x.toInt), some (.inl y.toInt)] [] h' (gl_End Y h0 c0) := fun x y h' hlt hq => mt_wb183 (nx x y h' hlt hq).1 oh ot (mi_inT x) (mi_inT y) ⟨by omega, fun h3 r1 r2 => by
      have e3 := me_nil r2
      subst e3
      exact (nx x y _ hlt hq).2⟩
    have nx208 : ∀ (x y : Int32) (h' : sm_H), zt < 40000 → gl_H Y h0 c0 (zt + 1) h' → me_E (d + 7) 206 208 [some (.inr (.inr 109)), some (.inl zh), some (.inl zt), some (.inl x.toInt), some (.inl y.toInt)] [] h' (gl_End Y h0 c0) := fun x y h' hlt hq => mt_wb208 (nx x y h' hlt hq).1 oh ot (mi_inT x) (mi_inT y) ⟨by omega, fun h3 r1 r2 => by
      have e3 := me_nil r2
      subst e3
      exact (nx x y _ hlt hq).2⟩
    have nx218 : ∀ (x y : Int32) (h' : sm_H), zt < 40000 → gl_H Y h0 c0 (zt + 1) h' → me_E (d + 7) 206 218 [some (.inr (.inr 109)), some (.inl zh), some (.inl zt), some (.inl x.toInt), some (.inl y.toInt)] [] h' (gl_End Y h0 c0) := fun x y h' hlt hq => mt_wb218 (nx x y h' hlt hq).1 oh ot (mi_inT x) (mi_inT y) ⟨by omega, fun h3 r1 r2 => by
      have e3 := me_nil r2
      subst e3
      exact (nx x y _ hlt hq).2⟩
    have stk1 : ∀ (h1 : sm_H) (wr : List (Nat × Nat)), 0 < mi_f h 14029 → mi_f h1 14029 = mi_f h 14029 - 1 → ab_Fr wr h h1 → (ab_in wr 21120 || ab_in wr 21248 || ab_in wr 21376) = false → wk_stk h1 = wk_st h (mi_f h 14029 - 1).toNat := by
      intro h1 wr c2 g2 g5 hw
      simp only [Bool.or_eq_false_iff] at hw
      unfold wk_stk
      rw [g2]
      exact wk_st_eq _ (fun i _ => ⟨me_a (k := 165) g5 hS rfl hw.1.1, me_a (k := 166) g5 hS rfl hw.1.2, me_a (k := 167) g5 hS rfl hw.2⟩)
    refine mt_waC hS oh ot o3 o4 ?_ ?_ ?_ ?_ ?_ ?_ ?_ ?_ ?_ ?_ ?_ ?_
    · intro c h1 g1 g2
      have e1 := me_nil g2
      subst e1
      exact gl_247 oh ot o3 o4 z0 z1 hH (fun _ => Or.inr (by omega))
    · intro b1 c1 c2 h1 g1 g2
      have e1 := me_nil g2
      subst e1
      exact gl_247 oh ot o3 o4 z0 z1 hH (fun _ => Or.inl c2)
    · intro b1 b2 c1 c2 c3 h1 g1 g2
      have e1 := me_nil g2
      subst e1
      exact gl_247 oh ot o3 o4 z0 z1 hH (fun hI => by have := hI.1.2.2.2.2.1; omega)
    · intro b1 b2 b3 c1 c2 c3 c4 h1 g1 g2
      have e1 := me_nil g2
      subst e1
      exact gl_247 oh ot o3 o4 z0 z1 hH (fun hI => by have := hI.1.2.2.2.1; omega)
    · intro b1 b2 b3 c1 c2 c3 c4 s k
      have hG := toI c4
      have hI := hG.1
      have hL : wk_L (mi_a h) Y := wk_L_g hL0 (wk_gc_fr hI.2.1 hS0 rfl)
      have hb29 := hI.2.2.2.2.1
      have htop := hI.2.2.1
      rw [wk_stk_pop c2] at htop
      have hcs := wk_cases htop
      dsimp only at hcs
      refine ⟨by omega, fun h1 g1 g2 g3 => ⟨_, gl_u (d := d) hS0 hL hG z0 c1 c2 g1 g2 g3 (by omega) rfl (by omega) (by omega), fun v h' ov hq => ?_⟩⟩
      obtain ⟨rfl, hq⟩ := hq
      exact nx175 _ _ h' c1 hq
    · intro b1 b2 b3 c1 c2 c3 c4 s k
      have hG := toI c4
      have hI := hG.1
      have hL : wk_L (mi_a h) Y := wk_L_g hL0 (wk_gc_fr hI.2.1 hS0 rfl)
      have hb29 := hI.2.2.2.2.1
      have htop := hI.2.2.1
      rw [wk_stk_pop c2] at htop
      have hcs := wk_cases htop
      dsimp only at hcs
      refine ⟨by omega, fun h1 g1 g2 g3 => ⟨_, gl_u (d := d) hS0 hL hG z0 c1 c2 g1 g2 g3 (by omega) rfl (by omega) (by omega), fun v h' ov hq => ?_⟩⟩
      obtain ⟨rfl, hq⟩ := hq
      exact nx175 _ _ h' c1 hq
    · intro b1 b2 b3 c1 c2 c3 c4 s
      have hG := toI c4
      have hI := hG.1
      have hL : wk_L (mi_a h) Y := wk_L_g hL0 (wk_gc_fr hI.2.1 hS0 rfl)
      have hb29 := hI.2.2.2.2.1
      refine ⟨by omega, fun h1 g1 g2 g3 => ⟨_, gl_f (d := d) hS0 hL hG z0 c1 c2 g1 g2 g3 (by omega) rfl rfl, fun v h' ov hq => ?_⟩⟩
      obtain ⟨rfl, hq⟩ := hq
      exact nx183 _ _ h' c1 hq
    · intro b1 b2 b3 b4 c1 c2 c3 c4 s
      obtain ⟨hI, gs, hR, hto, hJ⟩ := toI c4
      have hb29 := hI.2.2.2.2.1
      have htop := hI.2.2.1
      have hst := wk_stk_pop c2
      have es : mi_a h 165 (mi_f h 14029 - 1).toNat = 2 := by omega
      rw [es] at hst
      rw [hst] at htop
      obtain ⟨w1, w2, w3, w4, w5⟩ := wk_out htop
      refine ⟨by omega, fun h1 g1 g2 g3 g4 g5 => ?_⟩
      have e30 : mi_f h1 14030 = mi_f h 14030 := me_f (c := 14030) g5 hS rfl rfl
      have e16 : mi_f h1 14016 = mi_f h 14016 := me_f (c := 14016) g5 hS rfl rfl
      have k1 := stk1 h1 _ c2 g2 g5 rfl
      have hW : wl_H Y h0 1 gl_TT (zt + 1) h1 := Or.inr (wl_rest gl_T hI z0 c1 c2 g2 hst (Or.inl rfl) g1 g5 (by decide) (by
        rw [e30, g4]
        exact wk_SI_Z _ _ _ _ w5 (fun i _ => ⟨me_a (k := 168) g5 hS rfl rfl, me_a (k := 169) g5 hS rfl rfl⟩) (by show mi_f h 14016 ≤ mi_f h1 14016; omega)) (by omega) (by have := hI.2.2.2.2.2; omega))
      refine (nx _ _ h1 c1 (gl_next (hq := h) (v := none) (h1 := h1) (Or.inr (Or.inr (Or.inl rfl))) z0 (by rw [k1]; exact hst) hto hJ hW ?_)).2
      rw [gm_st_2]
      have jd := hJ.1
      have jl := hJ.2.1
      have jn := hJ.2.2.1
      dsimp only at jd jl jn
      rw [hst, gm_outs_2] at jd
      have := gm_outs_nn (wk_st h (mi_f h 14029 - 1).toNat)
      obtain ⟨r1, r2, r3, r4, r5, r6⟩ := hR
      refine gl_ux g1 ((me_f (c := 14044) g5 hS rfl rfl).trans c4) rfl ?_ ?_
      · unfold gx_R
        simp only [gm_T_mk, gm_X_mk, gm_F_mk, gm_D_mk, gm_P_mk]
        refine ⟨gx_T_fr r1 g5 hS rfl, (me_l (c := 14047) g5 hS rfl rfl).trans r2, (me_f (c := 14035) g5 hS rfl rfl).trans r3, ?_, e30.trans r5, gx_P_fr g5 hS rfl _ r6⟩
        rw [g3, r4]
        exact (gx_wrap (by omega) (by omega)).1
      · have i10 := hI.1.2.2.2.2.2.2.2.2.2.1
        rw [hst, wk_ul_o] at i10
        rw [g4, k1]
        omega
    · intro b1 b2 b3 b4 b5 c1 c2 c3 c4 s
      obtain ⟨hI, gs, hR, hto, hJ⟩ := toI c4
      have hb29 := hI.2.2.2.2.1
      have hp60 := hI.2.2.2.2.2
      have htop := hI.2.2.1
      have hst := wk_stk_pop c2
      have es : mi_a h 165 (mi_f h 14029 - 1).toNat = 3 := by omega
      rw [es] at hst
      rw [hst] at htop
      obtain ⟨w1, w2, w3⟩ := wk_mid htop
      refine ⟨by omega, fun h1 g1 g2 g4 g5 => ?_⟩
      have e30 : mi_f h1 14030 = mi_f h 14030 := me_f (c := 14030) g5 hS rfl rfl
      have e32 : mi_f h1 14032 = mi_f h 14032 := me_f (c := 14032) g5 hS rfl rfl
      have e16 : mi_f h1 14016 = mi_f h 14016 := me_f (c := 14016) g5 hS rfl rfl
      have k1 := stk1 h1 _ c2 g2 g5 rfl
      have hW : wl_H Y h0 1 gl_TT (zt + 1) h1 := Or.inr (wl_rest gl_T hI z0 c1 c2 g2 hst (Or.inr (Or.inl rfl)) g1 g5 (by decide) (by
        rw [e30, e32]
        refine wk_middle (wk_SI_Z (Z' := wl_Z h1) _ _ _ _ w3 (fun i hi => ⟨me_a (k := 168) g5 hS rfl rfl, ?_⟩) (by show mi_f h 14016 ≤ mi_f h1 14016; omega)) ?_
        · rw [if_neg (by decide)] at hi
          show mi_a h1 169 i = mi_a h 169 i
          rw [g4, if_neg (by omega)]
        · have w2 : 0 ≤ mi_a h 168 (mi_f h 14030 - 1).toNat ∧ mi_a h 168 (mi_f h 14030 - 1).toNat ≤ mi_f h 14016 := w2
          show 0 ≤ mi_a h1 168 (mi_f h 14030 - 1).toNat ∧ mi_a h1 168 (mi_f h 14030 - 1).toNat ≤ mi_a h1 169 (mi_f h 14030 - 1).toNat ∧ mi_a h1 169 (mi_f h 14030 - 1).toNat ≤ mi_f h1 14016
          rw [g4, if_pos rfl, me_a (k := 168) g5 hS rfl rfl, e16]
          exact ⟨w2.1, w2.2, Int.le_refl _⟩) (by rw [e32]; exact hI.1.2.2.2.2.2.2.2.2.1) (by omega))
      refine (nx _ _ h1 c1 (gl_next (hq := h) (v := none) (h1 := h1) (Or.inr (Or.inr (Or.inr (Or.inl rfl)))) z0 (by rw [k1]; exact hst) hto hJ hW ?_)).2
      rw [gm_st_3]
      obtain ⟨r1, r2, r3, r4, r5, r6⟩ := hR
      refine gl_ux g1 ((me_f (c := 14044) g5 hS rfl rfl).trans c4) rfl ?_ ?_
      · unfold gx_R gm_mid
        simp only [gm_T_mk, gm_X_mk, gm_F_mk, gm_D_mk, gm_P_mk]
        refine ⟨gx_T_fr r1 g5 hS rfl, (me_l (c := 14047) g5 hS rfl rfl).trans r2, (me_f (c := 14035) g5 hS rfl rfl).trans r3, (me_f (c := 14031) g5 hS rfl rfl).trans r4, ?_, ?_⟩
        · rw [e30, r5]
          cases gm_P gs with
          | nil => rfl
          | cons p q => rfl
        · cases hP : gm_P gs with
          | nil => exact trivial
          | cons p q =>
            rw [hP] at r5 r6
            rw [List.length_cons] at r5
            obtain ⟨x1, x2, x3⟩ := r6
            have ei : (mi_f h 14030 - 1).toNat = q.length := by omega
            refine ⟨(me_a (k := 168) g5 hS rfl rfl).trans x1, Or.inr ?_, gx_P_lt (L := q.length) (fun i hi => ⟨me_a (k := 168) g5 hS rfl rfl, ?_⟩) _ (Nat.le_refl _) x3⟩
            · rw [g4, if_pos ei.symm]
              exact r1.1
            · rw [g4, if_neg (by omega)]
      · have i10 := hI.1.2.2.2.2.2.2.2.2.2.1
        rw [hst, wk_ul_c (by decide)] at i10
        rw [e32, k1]
        exact i10.symm
    · intro b1 b2 b3 c1 c2 c3 c4 s
      obtain ⟨hI, gs, hR, hto, hJ⟩ := toI c4
      have hb29 := hI.2.2.2.2.1
      have hp60 := hI.2.2.2.2.2
      have htop := hI.2.2.1
      have hst := wk_stk_pop c2
      have es : mi_a h 165 (mi_f h 14029 - 1).toNat = 4 := by omega
      rw [es] at hst
      rw [hst] at htop
      obtain ⟨w1, w2, w3⟩ := wk_turn htop
      have w2 : 0 ≤ mi_a h 168 (mi_f h 14030 - 1).toNat ∧ mi_a h 168 (mi_f h 14030 - 1).toNat ≤ mi_a h 169 (mi_f h 14030 - 1).toNat ∧ mi_a h 169 (mi_f h 14030 - 1).toNat ≤ mi_f h 14016 := w2
      refine ⟨by omega, fun h1 g1 g2 g3 => ?_⟩
      have e30 : mi_f h1 14030 = mi_f h 14030 := me_f (c := 14030) g3 hS rfl rfl
      have e16 : mi_f h1 14016 = mi_f h 14016 := me_f (c := 14016) g3 hS rfl rfl
      have e168 : mi_a h1 168 (mi_f h 14030 - 1).toNat = mi_a h 168 (mi_f h 14030 - 1).toNat := me_a (k := 168) g3 hS rfl rfl
      have e169 : mi_a h1 169 (mi_f h 14030 - 1).toNat = mi_a h 169 (mi_f h 14030 - 1).toNat := me_a (k := 169) g3 hS rfl rfl
      -- the pair on the top
      obtain ⟨p, q, hP, hp0⟩ : ∃ p q, gm_P gs = p :: q ∧ p.2 ≠ 0 := by
        have j5 := hJ.2.2.2.2
        dsimp only at j5
        rw [hst] at j5
        cases hP : gm_P gs with
        | nil =>
          rw [hP] at j5
          exact absurd j5 gm_fl_40
        | cons p q =>
          rw [hP] at j5
          have j5 : gm_fl ((4, mi_a h 166 (mi_f h 14029 - 1).toNat, mi_a h 167 (mi_f h 14029 - 1).toNat) :: wk_st h (mi_f h 14029 - 1).toNat) (decide (p.2 ≠ 0) :: gm_fg q) := j5
          rw [gm_fl_4] at j5
          exact ⟨p, q, rfl, of_decide_eq_true j5.1⟩
      obtain ⟨r1, r2, r3, r4, r5, r6⟩ := id hR
      have r16 := r1.1
      rw [hP] at r5 r6
      rw [List.length_cons] at r5
      obtain ⟨x1, x2, x3⟩ := r6
      have x2 := x2.resolve_left hp0
      have ei : (mi_f h 14030 - 1).toNat = q.length := by omega
      rw [ei, x1, x2, r16] at w2
      refine ⟨_, (me_swap (d := d + 6) g1 (by omega) (by omega) (by rw [e30, e168, ei, x1]; omega) (by rw [e30, e168, e169, ei, x1, x2]; omega) (by rw [e30, e169, e16, ei, x2]; omega)).and (me_swapx (d := d + 6) g1 (gx_R_fr hR g3 hS rfl rfl rfl rfl) hP (by omega) hp0 (by omega) (by omega)), fun v h' ov hq => ?_⟩
      obtain ⟨⟨rfl, q1, q2, q3⟩, ⟨-, -, -, q4⟩⟩ := hq
      have hF : ab_Fr ([(14029, 14031), (18560, 18561), (20480, 20481)]) h h' := (g3.wide (fun c hc => ab_swr_ok (by decide) hc)).trans (q2.wide (fun c hc => ab_swr_ok (by decide) hc))
      have f29 : mi_f h' 14029 = mi_f h 14029 - 1 := (me_f (c := 14029) q2 g1 rfl rfl).trans g2
      have f16 : mi_f h' 14016 = mi_f h 14016 := me_f (c := 14016) hF hS rfl rfl
      have f32 : mi_f h' 14032 = mi_f h 14032 := me_f (c := 14032) hF hS rfl rfl
      have f30 : mi_f h' 14030 = mi_f h 14030 - 1 := by omega
      have k1 := stk1 h' _ c2 f29 hF rfl
      have hW : wl_H Y h0 1 gl_TT (zt + 1) h' := Or.inr (wl_rest gl_T hI z0 c1 c2 f29 hst (Or.inr (Or.inr rfl)) q1 hF (by decide) (by
        rw [f30, f32]
        exact wk_SI_Z _ _ _ _ w3 (fun i _ => ⟨me_a (k := 168) hF hS rfl rfl, me_a (k := 169) hF hS rfl rfl⟩) (by show mi_f h 14016 ≤ mi_f h' 14016; omega)) (by rw [f32]; exact hI.1.2.2.2.2.2.2.2.2.1) (by omega))
      refine nx208 _ _ h' c1 (gl_next (hq := h) (v := none) (h1 := h') (Or.inr (Or.inr (Or.inr (Or.inr (Or.inl rfl))))) z0 (by rw [k1]; exact hst) hto hJ hW ?_)
      rw [gm_st_4]
      refine gl_ux q1 ((me_f (c := 14044) hF hS rfl rfl).trans c4) rfl q4 ?_
      have i10 := hI.1.2.2.2.2.2.2.2.2.2.1
      rw [hst, wk_ul_c (by decide)] at i10
      rw [f32, k1]
      exact i10.symm
    · intro b1 b2 b3 c1 c2 c3 c4 s
      have hG := toI c4
      have hI := hG.1
      have hL : wk_L (mi_a h) Y := wk_L_g hL0 (wk_gc_fr hI.2.1 hS0 rfl)
      have hb29 := hI.2.2.2.2.1
      refine ⟨by omega, fun h1 g1 g2 g3 => ⟨_, gl_a (d := d) hS0 hL hG z0 c1 c2 g1 g2 g3 (by omega) rfl rfl, fun v h' ov hq => ?_⟩⟩
      obtain ⟨rfl, hq⟩ := hq
      exact nx218 _ _ h' c1 hq
    · intro b1 b2 b3 b4 c1 c2 c3 c4 s
      exfalso
      have hI := (toI c4).1
      have htop := hI.2.2.1
      rw [wk_stk_pop c2] at htop
      have hcs := wk_cases htop
      dsimp only at hcs
      omega
/-- from the begin -/
theorem me_walkx {h : sm_H} (hS : ab_Sh sx_sk h) (hL : wk_L (mi_a h) Y) (hr : wk_Lrule Y (mi_a h 114 0)) (hf0 : 0 ≤ mi_f h 14035) (hf1 : mi_f h 14035 ≤ 20) : me_E (d + 7) 206 0 [some (.inr (.inr 109)), some (.inl (1 : Int)), none, none, none] [] h (gl_End Y h ([(1, mi_a h 114 0, 0), (2, 1, 0)], (mx_l h 14047, mi_f h 14035 - 1, [(1, 0, 0)], 1, []))) := by
  have oh : mi_in 1 := ⟨by decide, by decide⟩
  refine mt_waA hS oh ?_
  intro h1 g1 f16 f28 f29 f30 f31 f32 f33 f34 f44 g2
  have est : wk_stk h1 = [] := by unfold wk_stk; rw [f29]; rfl
  have e14 : mi_a h1 114 (Int.toNat 0) = mi_a h 114 0 := me_a (k := 114) g2 hS rfl rfl
  have hR1 : gx_R h1 (mx_l h 14047, mi_f h 14035, [], 0, []) := by
    unfold gx_R
    simp only [gm_T_mk, gm_X_mk, gm_F_mk, gm_D_mk, gm_P_mk]
    exact ⟨⟨f16, fun k hk => absurd hk (Nat.not_lt_zero _), fun k j hk => absurd hk (Nat.not_lt_zero _)⟩, me_l (c := 14047) g2 hS rfl rfl, me_f (c := 14035) g2 hS rfl rfl, f31, f30, trivial⟩
  refine ⟨_, (me_enter (d := d + 4) 1 g1 f28 (by decide) (by decide) (by omega) (by omega) (by omega) (by omega) (fun _ => by omega)).and (me_enterx (d := d + 4) g1 f28 (by omega) (by omega) (by rw [est, f32]; rfl) (by omega) (by omega) (by decide) (by decide) hR1 (by rw [gm_F_mk]; omega) (by rw [gm_F_mk]; omega) (by rw [gm_D_mk]; decide) (by rw [gm_D_mk]; decide)), fun v h2 ov hq => ?_⟩
  obtain ⟨⟨rfl, q1, q2, q3, q4⟩, qx⟩ := hq
  have hF : ab_Fr wr_WK h h2 := (g2.wide (fun c hc => ab_swr_ok (by decide) hc)).trans (q2.wide (fun c hc => ab_swr_ok (by decide) hc))
  have een : gm_en (mi_a h1) 0 (wk_stk h1) (mx_l h 14047, mi_f h 14035, [], 0, []) = some ([(1, mi_a h 114 0, 0), (2, 1, 0)], (mx_l h 14047, mi_f h 14035 - 1, [(1, 0, 0)], 1, [])) := by
    unfold gm_en gm_c
    rw [est, if_neg (show ¬ (12 : Int) ≤ wk_ul [] by decide), gm_X_mk, gm_F_mk, gm_T_mk, gm_D_mk, gm_P_mk, gm_X_mk, gm_F_mk, gm_T_mk, gm_D_mk, gm_P_mk, if_neg (show ¬ 100 ≤ ([] : List (Int × Int × Int)).length by decide), e14]
    rfl
  rw [een] at qx
  obtain ⟨-, -, -, -, -, q5⟩ := qx
  refine mt_waB q1 oh ?_
  intro h3 r1 r2
  have e3 := me_nil r2
  subst e3
  refine gl_loop hS hL oh 40001 0 none none _ (by decide) (by decide) (by decide) (fun v e => by cases e) (fun v e => by cases e) ?_
  rcases q5 with ⟨q5, -⟩ | ⟨q5, c, q6, q7, q8, q9⟩
  · cases q5
  · injection q6 with q6
    subst q6
    dsimp only at q7 q8 q9
    rcases q4 with q4 | ⟨-, p5, p6, p7, p8, p9⟩
    · exfalso; omega
    · obtain ⟨v1, v2, v3, v4⟩ := p9
      have p30 : mi_f h3 14030 = 0 := (me_f (c := 14030) q2 g1 rfl rfl).trans f30
      have p28 : mi_f h3 14028 = 1 := (me_f (c := 14028) q2 g1 rfl rfl).trans f28
      have ul : wk_ul [(1, mi_a h 114 0, 0), (2, 1, 0)] = 1 := by
        rw [wk_ul_c (by decide)]
        rfl
      have en : wk_n 1 h1 = 0 := by unfold wk_n; rw [if_neg (by decide)]; exact f16
      refine Or.inr ⟨⟨⟨q1, p28, Or.inr (Or.inl rfl), q5, by omega, fun e => absurd e (by decide), by omega, by omega, by omega, by rw [q7, ul]; omega, by omega⟩, hF, ?_, trivial, by omega, by omega⟩, _, q8, ?_, ?_⟩
      · obtain ⟨l1, l2, l3⟩ := hr
        have hd := (hL.2.2.2 _ l1 l2).1
        rw [q7, p30, p6, f32]
        refine wk_pform ⟨l1, l2, ?_, by decide, by omega, by decide, by decide⟩ (wk_pout (Or.inr rfl) (by decide) (by decide) (by decide) ?_)
        · show (1 : Int) + _ - 4 ≤ _
          omega
        · unfold wk_SI
          exact ⟨rfl, rfl, by decide⟩
      · rw [q7]
        rfl
      · rw [q7]
        unfold gm_I gm_len
        dsimp only
        simp only [gm_T_mk, gm_F_mk, gm_D_mk, gm_P_mk]
        exact ⟨rfl, by decide, by decide, by show -(1 : Int) ≤ _ ∧ _; omega, trivial⟩
end GLM
