/-! swap -/
section SWA
variable {d : Nat} {zb za zn : Int}
def wr_sw : List (Nat × Nat) := [(14030, 14031), (18560, 18561), (20480, 20481)]
theorem sw99 (ob : mi_in zb) (oa : mi_in za) (hn0 : 0 ≤ zn) (hn1 : zn ≤ 100) : ∀ (N : Nat) (zk : Int) (h : sm_H), zn - zk < N → 0 ≤ zk → zk ≤ zn → zn ≤ mi_f h 14016 → ab_Sh sx_sk h → me_E d 226 99 [some (.inr (.inr 109)), some (.inl zb), some (.inl za), some (.inl zn), some (.inl zk)] [] h (fun w h' => w = none ∧ ab_Sh sx_sk h' ∧ ab_Fr wr_sw h h' ∧ mi_f h' 14030 = mi_f h 14030) := by
  have on : mi_in zn := ⟨by omega, by omega⟩
  intro N
  induction N with
  | zero => intro zk h h1 h2 h3; omega
  | succ N ih =>
    intro zk h h1 h2 h3 h4 hS
    have ok : mi_in zk := ⟨by omega, by omega⟩
    refine mt_swD hS ob oa on ok ?_ ?_
    · intro c h3 r1 r2
      have e3 := me_nil r2
      subst e3
      exact ⟨rfl, r1, ab_Fr.refl, rfl⟩
    · intro b c
      have br := me_ab (k := 145) (i := zk.toNat) hS rfl (by decide) (by omega)
      refine ⟨by omega, fun h3 r1 r2 r3 => ?_⟩
      have e16 : mi_f h3 14016 = mi_f h 14016 := me_f (c := 14016) r3 hS rfl rfl
      refine (ih _ h3 (by omega) (by omega) (by omega) (by omega) r1).imp (fun w h' hq => ⟨hq.1, hq.2.1, (r3.wide (fun c hc => ab_swr_ok (by decide) hc)).trans hq.2.2.1, hq.2.2.2.trans (me_f (c := 14030) r3 hS rfl rfl)⟩)
theorem sw65 (ob : mi_in zb) (oa : mi_in za) (hn0 : 0 ≤ zn) (hb0 : zn ≤ zb) : ∀ (N : Nat) (zk : Int) (h : sm_H), 100 - zk < N → zb ≤ zk → zk ≤ 100 → zb ≤ mi_f h 14016 → ab_Sh sx_sk h → me_E d 226 65 [some (.inr (.inr 109)), some (.inl zb), some (.inl za), some (.inl zn), some (.inl zk)] [] h (fun w h' => w = none ∧ ab_Sh sx_sk h' ∧ ab_Fr wr_sw h h' ∧ mi_f h' 14030 = mi_f h 14030) := by
  intro N
  induction N with
  | zero => intro zk h h1 h2 h3; omega
  | succ N ih =>
    intro zk h h1 h2 h3 h4 hS
    have ok : mi_in zk := ⟨by omega, by omega⟩
    have on : mi_in zn := ⟨by omega, by omega⟩
    have b16 := me_fb (c := 14016) hS rfl
    refine mt_swC hS ob oa on ok ?_ ?_
    · intro b c h3 r1 r2
      have e3 := me_nil r2
      subst e3
      exact sw99 ob oa hn0 (by omega) 200 0 h3 (by omega) (by decide) hn0 (by omega) r1
    · intro b c
      have br := me_ab (k := 160) (i := zk.toNat) hS rfl (by decide) (by omega)
      refine ⟨by omega, fun h3 r1 r2 r3 => ?_⟩
      have e16 : mi_f h3 14016 = mi_f h 14016 := me_f (c := 14016) r3 hS rfl rfl
      refine (ih _ h3 (by omega) (by omega) (by omega) (by omega) r1).imp (fun w h' hq => ⟨hq.1, hq.2.1, (r3.wide (fun c hc => ab_swr_ok (by decide) hc)).trans hq.2.2.1, hq.2.2.2.trans (me_f (c := 14030) r3 hS rfl rfl)⟩)
theorem sw34 (ha0 : 0 ≤ za) (hab : zn = zb - za) (hn0 : 0 ≤ zn) : ∀ (N : Nat) (zk : Int) (h : sm_H), zn - zk < N → 0 ≤ zk → zk ≤ zn → zb ≤ mi_f h 14016 → ab_Sh sx_sk h → me_E d 226 34 [some (.inr (.inr 109)), some (.inl zb), some (.inl za), some (.inl zn), some (.inl zk)] [] h (fun w h' => w = none ∧ ab_Sh sx_sk h' ∧ ab_Fr wr_sw h h' ∧ mi_f h' 14030 = mi_f h 14030) := by
  intro N
  induction N with
  | zero => intro zk h h1 h2 h3; omega
  | succ N ih =>
    intro zk h h1 h2 h3 h4 hS
    have b16 := me_fb (c := 14016) hS rfl
    have ok : mi_in zk := ⟨by omega, by omega⟩
    have on : mi_in zn := ⟨by omega, by omega⟩
    have ob : mi_in zb := ⟨by omega, by omega⟩
    have oa : mi_in za := ⟨by omega, by omega⟩
    refine mt_swB hS ob oa on ok ?_ ?_
    · intro c h3 r1 r2
      have e3 := me_nil r2
      subst e3
      exact sw65 ob oa hn0 (by omega) 200 zb h3 (by omega) (by omega) (by omega) h4 r1
    · intro c
      have br := me_ab (k := 160) (i := (za + zk).toNat) hS rfl (by decide) (by omega)
      refine ⟨by omega, fun h3 r1 r2 r3 => ?_⟩
      have e16 : mi_f h3 14016 = mi_f h 14016 := me_f (c := 14016) r3 hS rfl rfl
      refine (ih _ h3 (by omega) (by omega) (by omega) (by omega) r1).imp (fun w h' hq => ⟨hq.1, hq.2.1, (r3.wide (fun c hc => ab_swr_ok (by decide) hc)).trans hq.2.2.1, hq.2.2.2.trans (me_f (c := 14030) r3 hS rfl rfl)⟩)
theorem me_swap {h : sm_H} (hS : ab_Sh sx_sk h) (p0 : 1 ≤ mi_f h 14030) (p1 : mi_f h 14030 ≤ 64) (a0 : 0 ≤ mi_a h 168 (mi_f h 14030 - 1).toNat) (a1 : mi_a h 168 (mi_f h 14030 - 1).toNat ≤ mi_a h 169 (mi_f h 14030 - 1).toNat) (a2 : mi_a h 169 (mi_f h 14030 - 1).toNat ≤ mi_f h 14016) : me_E d 226 0 [some (.inr (.inr 109)), none, none, none, none] [] h (fun w h' => w = none ∧ ab_Sh sx_sk h' ∧ ab_Fr wr_sw h h' ∧ mi_f h' 14030 = mi_f h 14030 - 1) := by
  have b16 := me_fb (c := 14016) hS rfl
  refine mt_swA hS ?_
  intro b
  refine ⟨by omega, fun h1 g1 g2 g3 => ?_⟩
  have e16 : mi_f h1 14016 = mi_f h 14016 := me_f (c := 14016) g3 hS rfl rfl
  refine (sw34 a0 rfl (by omega) 200 0 h1 (by omega) (by decide) (by omega) (by omega) g1).imp (fun w h' hq => ⟨hq.1, hq.2.1, (g3.wide (fun c hc => ab_swr_ok (by decide) hc)).trans hq.2.2.1, hq.2.2.2.trans g2⟩)
end SWA
