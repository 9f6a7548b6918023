/-! the class's Grammar, exactly -/
section CGR
variable {d : Nat} {h h0 : sm_H}
def gd_W : List (Nat × Nat) := [(7680, 7681), (7685, 7687), (7690, 7691), (7698, 7699), (8064, 8065), (8192, 8193)]
def gd_Q (h0 : sm_H) (w : Option mi_V) (h' : sm_H) : Prop := w = none ∧ ab_Sh sx_sk h' ∧ ab_Fr gd_W h0 h' ∧ (mi_f h' 7680 = 0 ∧ mi_f h' 7685 = 0 ∧ mi_f h' 7686 = 0 ∧ mi_f h' 7690 = 0 ∧ mi_f h' 7698 = 0) ∧ ∀ f : Nat, f < 70 → mi_a h' 63 f = -1 ∧ mi_a h' 64 f = 0
theorem gd27 : ∀ (N : Nat) (zf : Int) (h : sm_H), 70 - zf < N → 0 ≤ zf → zf ≤ 70 → ab_Sh sx_sk h → ab_Fr gd_W h0 h → (mi_f h 7680 = 0 ∧ mi_f h 7685 = 0 ∧ mi_f h 7686 = 0 ∧ mi_f h 7690 = 0 ∧ mi_f h 7698 = 0) → (∀ f : Nat, (f : Int) < zf → mi_a h 63 f = -1 ∧ mi_a h 64 f = 0) → me_E (d + 1) 15 27 [some (.inr (.inr 60)), some (.inl zf)] [] h (gd_Q h0) := by
  intro N
  induction N with
  | zero => intro zf h hN f0 f1; exfalso; omega
  | succ N ih =>
    intro zf h hN f0 f1 hS hF hz hl
    refine mt_gdB hS ⟨by omega, by omega⟩ ?_ ?_ ?_
    · intro c h1 g1 g2
      have e := me_nil g2
      subst e
      exact ⟨rfl, hS, hF, hz, fun f hf => hl f (by omega)⟩
    · intro c c2; exfalso; omega
    · intro c c2
      refine ⟨⟨⟨by omega, by omega⟩, ⟨by omega, by omega⟩⟩, fun h1 g1 g2 g3 g4 => ?_⟩
      refine ih (zf + 1) h1 (by omega) (by omega) (by omega) g1 (hF.trans (g4.wide (fun c hc => ab_swr_ok (by decide) hc))) ?_ (fun f hf => ?_)
      · rw [me_f (c := 7680) g4 hS rfl rfl, me_f (c := 7685) g4 hS rfl rfl, me_f (c := 7686) g4 hS rfl rfl, me_f (c := 7690) g4 hS rfl rfl, me_f (c := 7698) g4 hS rfl rfl]
        exact hz
      · rw [g2, g3]
        by_cases e : f = zf.toNat
        · rw [if_pos e, if_pos e]
          exact ⟨rfl, rfl⟩
        · rw [if_neg e, if_neg e]
          exact hl f (by omega)
theorem me_gdrop (hS : ab_Sh sx_sk h) : me_E (d + 1) 15 0 [some (.inr (.inr 60)), none] [] h (gd_Q h) := by
  refine mt_gdA hS (fun h1 g1 g2 g3 g4 g5 g6 g7 => ?_)
  exact gd27 72 0 h1 (by decide) (by decide) (by decide) g1 (g7.wide (fun c hc => ab_swr_ok (by decide) hc)) ⟨g2, g3, g4, g5, g6⟩ (fun f hf => by omega)
/-- the first place of a row that holds zl -/
def fi_Q (h : sm_H) (n : Int) (k : Nat) (zl : Int) (w : Option mi_V) (h' : sm_H) : Prop := h' = h ∧ ∃ z, w = some (.inl z) ∧ ((0 ≤ z ∧ z < n ∧ mi_a h k z.toNat = zl ∧ ∀ j : Nat, (j : Int) < z → mi_a h k j ≠ zl) ∨ (z = -1 ∧ ∀ j : Nat, (j : Int) < n → mi_a h k j ≠ zl))
theorem gr2 {zl : Int} (hS : ab_Sh sx_sk h) (ol : mi_in zl) (n1 : mi_f h 7680 ≤ 10) : ∀ (N : Nat) (zr : Int), 10 - zr < N → 0 ≤ zr → zr ≤ 10 → (∀ j : Nat, (j : Int) < zr → mi_a h 61 j ≠ zl) → me_E (d + 1) 48 2 [some (.inr (.inr 60)), some (.inl zl), some (.inl zr)] [] h (fi_Q h (mi_f h 7680) 61 zl) := by
  intro N
  induction N with
  | zero => intro zr hN r0 r1; exfalso; omega
  | succ N ih =>
    intro zr hN r0 r1 hn
    refine mt_gnB hS ol ⟨by omega, by omega⟩ ?_ ?_ ?_ ?_ ?_ ?_ ?_
    · intro b c h1 g1 g2
      exact ⟨me_nil g2, -1, rfl, Or.inr ⟨rfl, fun j hj => hn j (by omega)⟩⟩
    · intro b c c2; exfalso; omega
    · intro b c c2; exfalso; omega
    · intro b c c2 c3; exfalso; omega
    · intro b c c2 c3; exfalso; omega
    · intro b c c2 c3 c4
      refine ⟨⟨⟨by omega, by omega⟩, ⟨by omega, by omega⟩⟩, fun h1 g1 g2 => ?_⟩
      have e := me_nil g2
      subst e
      refine ih (zr + 1) (by omega) (by omega) (by omega) (fun j hj => ?_)
      by_cases e : (j : Int) = zr
      · rw [show j = zr.toNat by omega]
        exact c4
      · exact hn j (by omega)
    · intro b c c2 c3 c4
      exact ⟨⟨by omega, by omega⟩, fun h1 g1 g2 => ⟨me_nil g2, zr, rfl, Or.inl ⟨c2, c, c4, hn⟩⟩⟩
theorem me_gruleNamed {zl : Int} (hS : ab_Sh sx_sk h) (ol : mi_in zl) (n1 : mi_f h 7680 ≤ 10) : me_E (d + 1) 48 0 [some (.inr (.inr 60)), some (.inl zl), none] [] h (fi_Q h (mi_f h 7680) 61 zl) := by
  refine mt_gnA hS ol (fun h1 g1 g2 => ?_)
  have e := me_nil g2
  subst e
  exact gr2 hS ol n1 12 0 (by decide) (by decide) (by decide) (fun j hj => by omega)
theorem gl2 {zl : Int} (hS : ab_Sh sx_sk h) (ol : mi_in zl) (n1 : mi_f h 7698 ≤ 20) : ∀ (N : Nat) (zr : Int), 20 - zr < N → 0 ≤ zr → zr ≤ 20 → (∀ j : Nat, (j : Int) < zr → mi_a h 75 j ≠ zl) → me_E (d + 1) 58 2 [some (.inr (.inr 60)), some (.inl zl), some (.inl zr)] [] h (fi_Q h (mi_f h 7698) 75 zl) := by
  intro N
  induction N with
  | zero => intro zr hN r0 r1; exfalso; omega
  | succ N ih =>
    intro zr hN r0 r1 hn
    refine mt_glB hS ol ⟨by omega, by omega⟩ ?_ ?_ ?_ ?_ ?_ ?_ ?_
    · intro b c h1 g1 g2
      exact ⟨me_nil g2, -1, rfl, Or.inr ⟨rfl, fun j hj => hn j (by omega)⟩⟩
    · intro b c c2; exfalso; omega
    · intro b c c2; exfalso; omega
    · intro b c c2 c3; exfalso; omega
    · intro b c c2 c3; exfalso; omega
    · intro b c c2 c3 c4
      refine ⟨⟨⟨by omega, by omega⟩, ⟨by omega, by omega⟩⟩, fun h1 g1 g2 => ?_⟩
      have e := me_nil g2
      subst e
      refine ih (zr + 1) (by omega) (by omega) (by omega) (fun j hj => ?_)
      by_cases e : (j : Int) = zr
      · rw [show j = zr.toNat by omega]
        exact c4
      · exact hn j (by omega)
    · intro b c c2 c3 c4
      exact ⟨⟨by omega, by omega⟩, fun h1 g1 g2 => ⟨me_nil g2, zr, rfl, Or.inl ⟨c2, c, c4, hn⟩⟩⟩
theorem me_gliteral {zl : Int} (hS : ab_Sh sx_sk h) (ol : mi_in zl) (n1 : mi_f h 7698 ≤ 20) : me_E (d + 1) 58 0 [some (.inr (.inr 60)), some (.inl zl), none] [] h (fi_Q h (mi_f h 7698) 75 zl) := by
  refine mt_glA hS ol (fun h1 g1 g2 => ?_)
  have e := me_nil g2
  subst e
  exact gl2 hS ol n1 22 0 (by decide) (by decide) (by decide) (fun j hj => by omega)
theorem me_gaddRule {zl zp : Int} (hS : ab_Sh sx_sk h) (ol : mi_in zl) (op : mi_in zp) (n0 : 0 ≤ mi_f h 7680) (n1 : mi_f h 7680 < 10) : me_E (d + 1) 50 0 [some (.inr (.inr 60)), some (.inl zl), some (.inl zp)] [] h (fun w h' => w = some (.inl (mi_f h 7680)) ∧ ab_Sh sx_sk h' ∧ ab_Fr [(7680, 7681), (7808, 7809), (7936, 7937)] h h' ∧ mi_f h' 7680 = mi_f h 7680 + 1 ∧ (∀ i, mi_a h' 61 i = if i = (mi_f h 7680).toNat then zl else mi_a h 61 i) ∧ ∀ i, mi_a h' 62 i = if i = (mi_f h 7680).toNat then zp else mi_a h 62 i) := by
  refine mt_gar hS ol op ?_ ?_ ?_
  · intro b c; exfalso; omega
  · intro b c c2; exfalso; omega
  · intro b c c2
    exact ⟨⟨⟨by omega, by omega⟩, ⟨by omega, by omega⟩, ⟨by omega, by omega⟩⟩, fun h1 g1 g2 g3 g4 g5 => ⟨by rw [Int.add_sub_cancel], g1, g5, g2, g3, g4⟩⟩
theorem me_gaddGroup (hS : ab_Sh sx_sk h) (n0 : 0 ≤ mi_f h 7685) (n1 : mi_f h 7685 ≤ 60) : me_E (d + 1) 62 0 [some (.inr (.inr 60))] [] h (fun w h' => w = some (.inl (10 + mi_f h 7685)) ∧ ab_Sh sx_sk h' ∧ ab_Fr [(7685, 7686)] h h' ∧ mi_f h' 7685 = mi_f h 7685 + 1) := by
  refine mt_gag hS (fun b => ⟨⟨⟨by omega, by omega⟩, ⟨by omega, by omega⟩, ⟨by omega, by omega⟩⟩, fun h1 g1 g2 g3 => ⟨?_, g1, g3, g2⟩⟩)
  rw [show 10 + (mi_f h 7685 + 1) - 1 = 10 + mi_f h 7685 by omega]
theorem me_gaddLiteral {zl : Int} (hS : ab_Sh sx_sk h) (ol : mi_in zl) (n0 : 0 ≤ mi_f h 7698) (n1 : mi_f h 7698 ≤ 20) (hk : (∀ j : Nat, (j : Int) < mi_f h 7698 → mi_a h 75 j ≠ zl) → mi_f h 7698 < 20) : me_E (d + 2) 61 0 [some (.inr (.inr 60)), some (.inl zl), none] [] h (fun w h' => ab_Sh sx_sk h' ∧ ab_Fr [(7698, 7699), (9600, 9601)] h h' ∧ ∃ z, w = some (.inl z) ∧ ((0 ≤ z ∧ z < mi_f h 7698 ∧ mi_a h 75 z.toNat = zl ∧ (∀ j : Nat, (j : Int) < z → mi_a h 75 j ≠ zl) ∧ h' = h) ∨ (z = mi_f h 7698 ∧ (∀ j : Nat, (j : Int) < mi_f h 7698 → mi_a h 75 j ≠ zl) ∧ mi_f h' 7698 = mi_f h 7698 + 1 ∧ ∀ i, mi_a h' 75 i = if i = (mi_f h 7698).toNat then zl else mi_a h 75 i))) := by
  refine mt_galA hS ol (fun h1 g1 g2 => ?_)
  have e := me_nil g2
  subst e
  refine ⟨_, me_gliteral (d := d) hS ol n1, fun w h2 ow hq => ?_⟩
  obtain ⟨rfl, z, rfl, hz⟩ := hq
  refine mt_galB (zz := z) hS ol ⟨by omega, by omega⟩ ?_ ?_ ?_ ?_
  · intro b c c2; exfalso; omega
  · intro b c c2 c3
    exfalso
    rcases hz with x | x
    · omega
    · have := hk x.2
      omega
  · intro b c c2 c3
    have hn : ∀ j : Nat, (j : Int) < mi_f h2 7698 → mi_a h2 75 j ≠ zl := by
      rcases hz with x | x
      · omega
      · exact x.2
    refine ⟨⟨⟨by omega, by omega⟩, ⟨by omega, by omega⟩, ⟨by omega, by omega⟩⟩, fun h3 r1 r2 r3 r4 => ⟨r1, r4, mi_f h2 7698, by rw [Int.add_sub_cancel], Or.inr ⟨rfl, hn, r2, r3⟩⟩⟩
  · intro c h3 r1 r2
    have e := me_nil r2
    subst e
    refine ⟨hS, ab_Fr.refl, z, rfl, Or.inl ?_⟩
    rcases hz with x | x
    · exact ⟨x.1, x.2.1, x.2.2.1, x.2.2.2, rfl⟩
    · omega
def ga_W : List (Nat × Nat) := [(7686, 7687), (8064, 8065), (8192, 8193), (8320, 8321), (8448, 8449), (8576, 8577)]
def ga_R (h h' : sm_H) (zf zb zp : Int) : Prop :=
  mi_f h' 7686 = mi_f h 7686 + 1 ∧
  (∀ i, mi_a h' 63 i = if zb = -1 ∧ i = zf.toNat then mi_f h 7686 else mi_a h 63 i) ∧
  (∀ i, mi_a h' 64 i = if i = zf.toNat then mi_a h 64 i + 1 else mi_a h 64 i) ∧
  (∀ i, mi_a h' 65 i = if i = (mi_f h 7686).toNat then -1 else mi_a h 65 i) ∧
  (∀ i, mi_a h' 66 i = if zb ≠ -1 ∧ i = zb.toNat then mi_f h 7686 else if i = (mi_f h 7686).toNat then -1 else mi_a h 66 i) ∧
  (∀ i, mi_a h' 67 i = if i = (mi_f h 7686).toNat then zp else mi_a h 67 i)
theorem me_gaddAlternative {zf zb zp : Int} (hS : ab_Sh sx_sk h) (op : mi_in zp) (n0 : 0 ≤ mi_f h 7686) (n1 : mi_f h 7686 < 66) (f0 : 0 ≤ zf) (f1 : zf < 70) (b0 : -1 ≤ zb) (b1 : zb < 66) (s0 : 0 ≤ mi_a h 64 zf.toNat) (s1 : mi_a h 64 zf.toNat ≤ 100) : me_E (d + 1) 53 0 [some (.inr (.inr 60)), some (.inl zf), some (.inl zb), some (.inl zp), none] [] h (fun w h' => w = some (.inl (mi_f h 7686)) ∧ ab_Sh sx_sk h' ∧ ab_Fr ga_W h h' ∧ ga_R h h' zf zb zp) := by
  have of : mi_in zf := ⟨by omega, by omega⟩
  have ob : mi_in zb := ⟨by omega, by omega⟩
  have oa : mi_in (mi_f h 7686) := ⟨by omega, by omega⟩
  refine mt_gaaA hS of ob op ?_ ?_ ?_
  · intro b c; exfalso; omega
  · intro b c c2; exfalso; omega
  intro b c c2
  refine ⟨⟨⟨by omega, by omega⟩, ⟨by omega, by omega⟩⟩, fun h1 g1 g2 g3 g4 g5 g6 => ?_⟩
  have e64 : ∀ i, mi_a h1 64 i = mi_a h 64 i := fun i => me_a (k := 64) g6 hS rfl rfl
  have e63 : ∀ i, mi_a h1 63 i = mi_a h 63 i := fun i => me_a (k := 63) g6 hS rfl rfl
  refine mt_gaaB g1 of ob op oa ?_ ?_ ?_
  · intro c3; exfalso; omega
  · intro c3 c4; exfalso; omega
  intro c3 c4
  refine ⟨⟨⟨by omega, by omega⟩, by rw [e64]; omega⟩, fun h2 r1 r2 r3 => ?_⟩
  have F2 : ab_Fr ga_W h h2 := (g6.wide (fun c hc => ab_swr_ok (by decide) hc)).trans (r3.wide (fun c hc => ab_swr_ok (by decide) hc))
  have q64 : ∀ i, mi_a h2 64 i = if i = zf.toNat then mi_a h 64 i + 1 else mi_a h 64 i := fun i => by
    rw [r2, e64, e64]
    by_cases e : i = zf.toNat
    · rw [if_pos e, if_pos e, e]
    · rw [if_neg e, if_neg e]
  refine mt_gaaC r1 of ob op oa ?_ ?_ ?_ ?_ ?_ ?_
  · intro c5 c6; exfalso; omega
  · intro c5 c6 c7; exfalso; omega
  · intro c5 c6 c7
    refine ⟨⟨by omega, by omega⟩, fun h3 u1 u2 u3 => ⟨rfl, u1, F2.trans (u3.wide (fun c hc => ab_swr_ok (by decide) hc)), ?_, fun i => ?_, fun i => ?_, fun i => ?_, fun i => ?_, fun i => ?_⟩⟩
    · rw [me_f (c := 7686) u3 r1 rfl rfl, me_f (c := 7686) r3 g1 rfl rfl, g2]
    · rw [me_a (k := 63) u3 r1 rfl rfl, me_a (k := 63) r3 g1 rfl rfl, e63, if_neg (fun x => c5 x.1)]
    · rw [me_a (k := 64) u3 r1 rfl rfl, q64]
    · rw [me_a (k := 65) u3 r1 rfl rfl, me_a (k := 65) r3 g1 rfl rfl, g3]
    · rw [u2, me_a (k := 66) r3 g1 rfl rfl, g4]
      by_cases e : i = zb.toNat
      · rw [if_pos e, if_pos ⟨c5, e⟩]
      · rw [if_neg e, if_neg (c := zb ≠ -1 ∧ i = zb.toNat) (fun x => e x.2)]
    · rw [me_a (k := 67) u3 r1 rfl rfl, me_a (k := 67) r3 g1 rfl rfl, g5]
  · intro c5 c6; exfalso; omega
  · intro c5 c6 c7; exfalso; omega
  · intro c5 c6 c7
    refine ⟨⟨by omega, by omega⟩, fun h3 u1 u2 u3 => ⟨rfl, u1, F2.trans (u3.wide (fun c hc => ab_swr_ok (by decide) hc)), ?_, fun i => ?_, fun i => ?_, fun i => ?_, fun i => ?_, fun i => ?_⟩⟩
    · rw [me_f (c := 7686) u3 r1 rfl rfl, me_f (c := 7686) r3 g1 rfl rfl, g2]
    · rw [u2, me_a (k := 63) r3 g1 rfl rfl, e63]
      by_cases e : i = zf.toNat
      · rw [if_pos e, if_pos ⟨c5, e⟩]
      · rw [if_neg e, if_neg (c := zb = -1 ∧ i = zf.toNat) (fun x => e x.2)]
    · rw [me_a (k := 64) u3 r1 rfl rfl, q64]
    · rw [me_a (k := 65) u3 r1 rfl rfl, me_a (k := 65) r3 g1 rfl rfl, g3]
    · rw [me_a (k := 66) u3 r1 rfl rfl, me_a (k := 66) r3 g1 rfl rfl, g4, if_neg (c := zb ≠ -1 ∧ i = zb.toNat) (fun x => x.1 c5)]
    · rw [me_a (k := 67) u3 r1 rfl rfl, me_a (k := 67) r3 g1 rfl rfl, g5]
def gp_W : List (Nat × Nat) := [(7690, 7691), (8704, 8705), (8832, 8833), (8960, 8961), (9088, 9089), (9216, 9217), (9344, 9345), (9472, 9473)]
def gp_R (h h' : sm_H) (zs zv zp : Int) : Prop :=
  mi_f h' 7690 = mi_f h 7690 + 1 ∧
  (∀ i, mi_a h' 68 i = if i = (mi_f h 7690).toNat then zs else mi_a h 68 i) ∧
  (∀ i, mi_a h' 69 i = if i = (mi_f h 7690).toNat then zv else mi_a h 69 i) ∧
  (∀ i, mi_a h' 70 i = if i = (mi_f h 7690).toNat then zp else mi_a h 70 i) ∧
  (∀ i, mi_a h' 71 i = if i = (mi_f h 7690).toNat then -1 else mi_a h 71 i) ∧
  (∀ i, mi_a h' 72 i = if i = (mi_f h 7690).toNat then 0 else mi_a h 72 i) ∧
  (∀ i, mi_a h' 73 i = if i = (mi_f h 7690).toNat then zp else mi_a h 73 i) ∧
  (∀ i, mi_a h' 74 i = if i = (mi_f h 7690).toNat then 0 else mi_a h 74 i)
theorem me_gaddPart {zs zv zp : Int} (hS : ab_Sh sx_sk h) (os : mi_in zs) (ov : mi_in zv) (op : mi_in zp) (n0 : 0 ≤ mi_f h 7690) (n1 : mi_f h 7690 < 60) : me_E (d + 1) 60 0 [some (.inr (.inr 60)), some (.inl zs), some (.inl zv), some (.inl zp), none] [] h (fun w h' => w = some (.inl (mi_f h 7690)) ∧ ab_Sh sx_sk h' ∧ ab_Fr gp_W h h' ∧ gp_R h h' zs zv zp) := by
  refine mt_gap hS os ov op ?_ ?_ ?_
  · intro b c; exfalso; omega
  · intro b c c2; exfalso; omega
  · intro b c c2
    exact ⟨⟨⟨by omega, by omega⟩, ⟨by omega, by omega⟩⟩, fun h1 g1 g2 g3 g4 g5 g6 g7 g8 g9 g10 => ⟨rfl, g1, g10, g2, g3, g4, g5, g6, g7, g8, g9⟩⟩
theorem me_gattach {za zb zp : Int} (hS : ab_Sh sx_sk h) (op : mi_in zp) (a0 : 0 ≤ za) (a1 : za < 66) (b0 : -1 ≤ zb) (b1 : zb < 60) : me_E (d + 1) 63 0 [some (.inr (.inr 60)), some (.inl za), some (.inl zb), some (.inl zp)] [] h (fun w h' => w = none ∧ ab_Sh sx_sk h' ∧ ab_Fr [(8320, 8321), (9088, 9089)] h h' ∧ (∀ i, mi_a h' 65 i = if zb = -1 ∧ i = za.toNat then zp else mi_a h 65 i) ∧ ∀ i, mi_a h' 71 i = if zb ≠ -1 ∧ i = zb.toNat then zp else mi_a h 71 i) := by
  refine mt_gat hS ⟨by omega, by omega⟩ ⟨by omega, by omega⟩ op ?_ ?_ ?_ ?_ ?_ ?_
  · intro c c2; exfalso; omega
  · intro c c2 c3; exfalso; omega
  · intro c c2 c3
    refine ⟨⟨by omega, by omega⟩, fun h1 g1 g2 g3 => ⟨rfl, g1, g3.wide (fun c hc => ab_swr_ok (by decide) hc), fun i => ?_, fun i => ?_⟩⟩
    · rw [me_a (k := 65) g3 hS rfl rfl, if_neg (fun x => c x.1)]
    · rw [g2]
      by_cases e : i = zb.toNat
      · rw [if_pos e, if_pos ⟨c, e⟩]
      · rw [if_neg e, if_neg (fun x => e x.2)]
  · intro c c2; exfalso; omega
  · intro c c2 c3; exfalso; omega
  · intro c c2 c3
    refine ⟨⟨by omega, by omega⟩, fun h1 g1 g2 g3 => ⟨rfl, g1, g3.wide (fun c hc => ab_swr_ok (by decide) hc), fun i => ?_, fun i => ?_⟩⟩
    · rw [g2]
      by_cases e : i = za.toNat
      · rw [if_pos e, if_pos ⟨c, e⟩]
      · rw [if_neg e, if_neg (fun x => e x.2)]
    · rw [me_a (k := 71) g3 hS rfl rfl, if_neg (fun x => x.1 c)]
/-- the form in a part -/
def gf_v (h : sm_H) (p : Int) : Int := if mi_a h 68 p.toNat = 9 ∨ mi_a h 68 p.toNat = 10 then mi_a h 69 p.toNat else -1
theorem me_gformIn {zp : Int} (hS : ab_Sh sx_sk h) (p0 : 0 ≤ zp) (p1 : zp < 60) : me_E (d + 1) 71 0 [some (.inr (.inr 60)), some (.inl zp), none] [] h (fun w h' => h' = h ∧ w = some (.inl (gf_v h zp))) := by
  refine mt_gfi hS ⟨by omega, by omega⟩ ?_ ?_ ?_ ?_ ?_
  · intro c; exfalso; omega
  · intro c c2; exfalso; omega
  · intro c c2 c3
    exact ⟨⟨by omega, by omega⟩, fun h1 g1 g2 => ⟨me_nil g2, by unfold gf_v; rw [if_pos (Or.inl c3)]⟩⟩
  · intro c c2 c3 c4
    exact ⟨⟨by omega, by omega⟩, fun h1 g1 g2 => ⟨me_nil g2, by unfold gf_v; rw [if_neg (fun x => x.elim c3 c4)]⟩⟩
  · intro c c2 c3 c4
    exact ⟨⟨by omega, by omega⟩, fun h1 g1 g2 => ⟨me_nil g2, by unfold gf_v; rw [if_pos (Or.inr c4)]⟩⟩
end CGR
