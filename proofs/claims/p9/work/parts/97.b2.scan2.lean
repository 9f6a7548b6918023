/-! the reference's scan, exactly: from its begin -/
section SCY
variable {d : Nat} {h0 h : sm_H} {zc a : Int}
theorem sx170 (hS0 : ab_Sh sx_sk h0) (hS : ab_Sh sx_sk h) (hF : ab_Fr sn_W h0 h) (hp : tx_end tx_blk (mi_f h0 13953) (mi_a h0 110) a (mi_f h 14002)) (hpn : mi_f h 14002 < mi_f h0 13953) (hc : zc = mi_a h0 110 (mi_f h 14002).toNat) (oc : mi_in zc) (hat : mi_f h 14000 = mi_f h 14002 + 1) (hv : (mx_l h 14004).toInt = 0) (n1 : ¬ tx_low zc) (n2 : ¬ tx_cap zc) (n3 : ¬ tx_dig zc) : me_E (d + 2) 177 170 [some (.inr (.inr 109)), some (.inl zc), none, none] [] h (sx_Q h0 a) := by
  have b2 := me_fb (c := 14002) hS rfl
  have bn := me_fb (c := 13953) hS0 rfl
  have en : mi_f h 13953 = mi_f h0 13953 := me_f (c := 13953) hF hS0 rfl rfl
  have ea : mi_a h 110 = mi_a h0 110 := funext (fun i => me_a (k := 110) hF hS0 rfl rfl)
  refine mt_scF hS oc ?_ ?_
  · intro c h1 g1 g2
    have e := me_nil g2
    subst e
    exact sx244 hS0 hS hF hp hpn hc oc hat hv n1 n2 n3 c
  · intro c34 h1 g1 g2
    have e := me_nil g2
    subst e
    refine ⟨_, me_lettersx (d := d) (zb := mi_f h1 14000) hS (by omega) (by omega), fun w h2 ow hq => ?_⟩
    obtain ⟨q, rfl, q1, q2, q3, q4⟩ := hq
    rw [en, ea, hat] at q1
    rw [ea, hat] at q4
    have qn := tx_end_n q1 (by omega)
    have q0 := q1.1
    have oq : mi_in q := ⟨by omega, by omega⟩
    have e0 : mi_f h2 14000 = mi_f h1 14002 + 1 := (me_f (c := 14000) q3 hS rfl rfl).trans hat
    have e2 : mi_f h2 14002 = mi_f h1 14002 := me_f (c := 14002) q3 hS rfl rfl
    have en2 : mi_f h2 13953 = mi_f h0 13953 := (me_f (c := 13953) q3 hS rfl rfl).trans en
    have ea2 : ∀ i, mi_a h2 110 i = mi_a h0 110 i := fun i => (me_a (k := 110) q3 hS rfl rfl).trans (by rw [ea])
    have F2 : ab_Fr sn_W h0 h2 := hF.trans (q3.wide (fun c hc => ab_swr_ok (by decide) hc))
    have no : ¬ (mi_f h1 14002 + 1 < q ∧ q - (mi_f h1 14002 + 1) < 6 ∧ q < mi_f h0 13953 ∧ mi_a h0 110 q.toNat = 34) → me_E (d + 2) 177 219 [some (.inr (.inr 109)), some (.inl zc), some (.inl q), none] [.inl 0] h2 (sx_Q h0 a) := fun hn => by
      refine mt_scG2 q2 oc oq ⟨by decide, by decide⟩ ?_ (fun x => absurd rfl x)
      intro _
      refine ⟨⟨⟨by omega, by omega⟩, ⟨by omega, by omega⟩⟩, fun h3 g1 g2 g3 g4 => ?_⟩
      have e22 : mi_f h3 14002 = mi_f h1 14002 := (me_f (c := 14002) g4 q2 rfl rfl).trans e2
      refine ⟨rfl, g1, F2.trans (g4.wide (fun c hc => ab_swr_ok (by decide) hc)), ?_⟩
      rw [e22, g3]
      exact ⟨hp, Or.inr ⟨hpn, Or.inr (Or.inr (Or.inr (Or.inl ⟨by rw [← hc]; exact c34, q, q1, Or.inr ⟨hn, rfl⟩⟩)))⟩⟩
    refine mt_scG q2 oc oq ?_ ?_ ?_ ?_ ?_
    · intro b c h3 g1 g2
      have e := me_nil g2
      subst e
      exact no (fun x => by omega)
    · intro b c c2
      refine ⟨⟨by omega, by omega⟩, fun h3 g1 g2 => ?_⟩
      have e := me_nil g2
      subst e
      exact no (fun x => by omega)
    · intro b b3 c c2 c3
      refine ⟨⟨by omega, by omega⟩, fun h3 g1 g2 => ?_⟩
      have e := me_nil g2
      subst e
      exact no (fun x => by omega)
    · intro b b3 c c2 c3 c4
      refine ⟨⟨⟨by omega, by omega⟩, ⟨by omega, by omega⟩⟩, fun h3 g1 g2 => ?_⟩
      have e := me_nil g2
      subst e
      refine no (fun x => ?_)
      rw [ea2] at c4
      exact c4 x.2.2.2
    · intro b b3 c c2 c3 c4
      refine ⟨⟨⟨by omega, by omega⟩, ⟨by omega, by omega⟩⟩, fun h3 g1 g2 => ?_⟩
      have e := me_nil g2
      subst e
      rw [ea2] at c4
      refine mt_scG2 q2 oc oq ⟨by decide, by decide⟩ (fun x => absurd x (by decide)) ?_
      intro _
      refine ⟨⟨⟨by omega, by omega⟩, ⟨by omega, by omega⟩⟩, fun h4 g1 g2 g3 g4 => ?_⟩
      have e22 : mi_f h4 14002 = mi_f h1 14002 := (me_f (c := 14002) g4 q2 rfl rfl).trans e2
      have e4 : mx_l h4 14004 = mx_l h3 14004 := me_l (c := 14004) g4 q2 rfl rfl
      refine ⟨rfl, g1, F2.trans (g4.wide (fun c hc => ab_swr_ok (by decide) hc)), ?_⟩
      rw [e22, g3, e4, g2]
      refine ⟨hp, Or.inr ⟨hpn, Or.inr (Or.inr (Or.inr (Or.inl ⟨by rw [← hc]; exact c34, q, q1, Or.inl ⟨by omega, by omega, by omega, c4, rfl, ?_, rfl⟩⟩)))⟩⟩
      rcases q4 with ⟨u1, u2⟩ | ⟨u1, u2⟩
      · omega
      · exact u2
theorem sx117 (hS0 : ab_Sh sx_sk h0) (hS : ab_Sh sx_sk h) (hF : ab_Fr sn_W h0 h) (hp : tx_end tx_blk (mi_f h0 13953) (mi_a h0 110) a (mi_f h 14002)) (hpn : mi_f h 14002 < mi_f h0 13953) (hc : zc = mi_a h0 110 (mi_f h 14002).toNat) (oc : mi_in zc) (hat : mi_f h 14000 = mi_f h 14002 + 1) (hv : (mx_l h 14004).toInt = 0) (n1 : ¬ tx_low zc) : me_E (d + 2) 177 117 [some (.inr (.inr 109)), some (.inl zc), none, none] [] h (sx_Q h0 a) := by
  have es : ∀ {z : Int}, mi_in z → ((Int32.ofInt z).toInt64).toInt = z := fun {z} oz => by rw [Int32.toInt_toInt64, mi_ti oz]
  have dig : tx_dig zc → ∀ h1, ab_Sh sx_sk h1 → mi_f h1 14001 = (5 : Int) → mx_l h1 14004 = (Int32.ofInt (zc - ((48 : Int)))).toInt64 → ab_Fr [(14001, 14002), (14004, 14005)] h h1 → sx_Q h0 a none h1 := fun hd h1 g1 g2 g3 g4 => by
    have hd' := hd
    unfold tx_dig at hd'
    have e0 : mi_f h1 14000 = mi_f h 14000 := me_f (c := 14000) g4 hS rfl rfl
    have e2 : mi_f h1 14002 = mi_f h 14002 := me_f (c := 14002) g4 hS rfl rfl
    refine ⟨rfl, g1, hF.trans (g4.wide (fun c hc => ab_swr_ok (by decide) hc)), ?_⟩
    rw [e0, e2, g2, g3, es ⟨by omega, by omega⟩, hat]
    exact ⟨hp, Or.inr ⟨hpn, Or.inr (Or.inr (Or.inl ⟨by rw [← hc]; exact hd, rfl, by rw [hc], rfl⟩))⟩⟩
  have on : ¬ tx_cap zc → ¬ tx_dig zc → ∀ h1, ab_Sh sx_sk h1 → ab_Fr [] h h1 → me_E (d + 2) 177 170 [some (.inr (.inr 109)), some (.inl zc), none, none] [] h1 (sx_Q h0 a) := fun n2 n3 h1 g1 g2 => by
    have e := me_nil g2
    subst e
    exact sx170 hS0 hS hF hp hpn hc oc hat hv n1 n2 n3
  refine mt_scE hS oc ?_ ?_ ?_ ?_ ?_ ?_ ?_
  · intro c1 c2
    exact on (fun x => by have := x.1; omega) (fun x => by have := x.1; omega)
  · intro c1 c2 c3
    exact on (fun x => by have := x.1; omega) (fun x => by have := x.2; omega)
  · intro c1 c2 c3
    refine ⟨⟨⟨by omega, by omega⟩, ?_⟩, dig ⟨c2, c3⟩⟩
    rw [es ⟨by omega, by omega⟩]
    omega
  · intro c1 c2 c3
    exfalso; omega
  · intro c1 c2 c3 c4
    exact on (fun x => by have := x.2; omega) (fun x => by have := x.2; omega)
  · intro c1 c2 c3 c4
    exfalso; omega
  · intro c1 c2
    refine ⟨⟨⟨by omega, by omega⟩, ?_⟩, fun h1 g1 g2 g3 g4 => ?_⟩
    · rw [es ⟨by omega, by omega⟩]
      omega
    · have e0 : mi_f h1 14000 = mi_f h 14000 := me_f (c := 14000) g4 hS rfl rfl
      have e2 : mi_f h1 14002 = mi_f h 14002 := me_f (c := 14002) g4 hS rfl rfl
      refine ⟨rfl, g1, hF.trans (g4.wide (fun c hc => ab_swr_ok (by decide) hc)), ?_⟩
      rw [e0, e2, g2, g3, es ⟨by omega, by omega⟩, hat]
      exact ⟨hp, Or.inr ⟨hpn, Or.inr (Or.inl ⟨by rw [← hc]; exact ⟨c1, c2⟩, rfl, by rw [hc], rfl⟩)⟩⟩
theorem sx71 (hS0 : ab_Sh sx_sk h0) (hS : ab_Sh sx_sk h) (hF : ab_Fr sn_W h0 h) (hp : tx_end tx_blk (mi_f h0 13953) (mi_a h0 110) a (mi_f h 14002)) (hpn : mi_f h 14002 ≤ mi_f h0 13953) (hc : mi_f h 14002 < mi_f h0 13953 → zc = mi_a h0 110 (mi_f h 14002).toNat) (oc : mi_in zc) (hat : mi_f h 14000 = mi_f h 14002 + 1) (hv : (mx_l h 14004).toInt = 0) : me_E (d + 2) 177 71 [some (.inr (.inr 109)), some (.inl zc), none, none] [] h (sx_Q h0 a) := by
  have b2 := me_fb (c := 14002) hS rfl
  have en : mi_f h 13953 = mi_f h0 13953 := me_f (c := 13953) hF hS0 rfl rfl
  have ea : mi_a h 110 = mi_a h0 110 := funext (fun i => me_a (k := 110) hF hS0 rfl rfl)
  refine mt_scC hS oc ?_ ?_ ?_ ?_
  · intro b b3 c c2 h1 g1 g2
    have e := me_nil g2
    subst e
    exact sx117 hS0 hS hF hp (by omega) (hc (by omega)) oc hat hv (fun x => by have := x.1; omega)
  · intro b b3 c c2 c3 h1 g1 g2
    have e := me_nil g2
    subst e
    exact sx117 hS0 hS hF hp (by omega) (hc (by omega)) oc hat hv (fun x => by have := x.2; omega)
  · intro b b3 c c2 c3 h1 g1 g2
    have e := me_nil g2
    subst e
    have hl : mi_f h1 14002 < mi_f h0 13953 := by omega
    refine ⟨_, me_lettersx (d := d) (zb := mi_f h1 14002) hS (by omega) (by omega), fun w h2 ow hq => ?_⟩
    obtain ⟨q, rfl, q1, q2, q3, q4⟩ := hq
    rw [en, ea] at q1
    rw [ea] at q4
    have qn := tx_end_n q1 (by omega)
    have q0 := q1.1
    refine mt_scD (zz := q) q2 oc ⟨by omega, by omega⟩ ⟨⟨by omega, by omega⟩, fun h3 g1 g2 g3 g4 => ?_⟩
    have e2 : mi_f h3 14002 = mi_f h1 14002 := (me_f (c := 14002) g4 q2 rfl rfl).trans (me_f (c := 14002) q3 hS rfl rfl)
    have e4 : mx_l h3 14004 = mx_l h2 14004 := me_l (c := 14004) g4 q2 rfl rfl
    refine ⟨rfl, g1, (hF.trans (q3.wide (fun c hc => ab_swr_ok (by decide) hc))).trans (g4.wide (fun c hc => ab_swr_ok (by decide) hc)), ?_⟩
    rw [e2, e4, g2, g3]
    exact ⟨hp, Or.inr ⟨hl, Or.inl ⟨by rw [← hc hl]; exact ⟨c2, c3⟩, rfl, q1, q4⟩⟩⟩
  · intro b b3 c h1 g1 g2 g3
    have e2 : mi_f h1 14002 = mi_f h 14002 := me_f (c := 14002) g3 hS rfl rfl
    refine ⟨rfl, g1, hF.trans (g3.wide (fun c hc => ab_swr_ok (by decide) hc)), ?_⟩
    rw [e2, g2]
    exact ⟨hp, Or.inl ⟨by omega, rfl⟩⟩
theorem sx39 (hS0 : ab_Sh sx_sk h0) (hS : ab_Sh sx_sk h) (hF : ab_Fr sn_W h0 h) (hp : tx_end tx_blk (mi_f h0 13953) (mi_a h0 110) a (mi_f h 14000)) (hpn : mi_f h 14000 ≤ mi_f h0 13953) : me_E (d + 2) 177 39 [some (.inr (.inr 109)), none, none, none] [] h (sx_Q h0 a) := by
  have bn := me_fb (c := 13953) hS0 rfl
  have en : mi_f h 13953 = mi_f h0 13953 := me_f (c := 13953) hF hS0 rfl rfl
  have ea : mi_a h 110 = mi_a h0 110 := funext (fun i => me_a (k := 110) hF hS0 rfl rfl)
  refine mt_scB hS ?_ ?_
  · intro b b2 c
    refine ⟨⟨⟨by omega, by omega⟩, ⟨by omega, by omega⟩, ⟨by omega, by omega⟩⟩, fun h1 g1 g2 g3 g4 g5 => ?_⟩
    exact sx71 hS0 g1 (hF.trans (g5.wide (fun c hc => ab_swr_ok (by decide) hc))) (by rw [g3]; exact hp) (by omega) (fun x => by omega) ⟨by decide, by decide⟩ (by omega) (by rw [g4]; rfl)
  · intro b b2 c
    have bc := me_ab (k := 110) (i := (mi_f h 14000).toNat) hS rfl (by decide) (by omega)
    refine ⟨⟨⟨by omega, by omega⟩, ⟨by omega, by omega⟩, ⟨by omega, by omega⟩, ⟨by omega, by omega⟩⟩, fun h1 g1 g2 g3 g4 g5 => ?_⟩
    exact sx71 hS0 g1 (hF.trans (g5.wide (fun c hc => ab_swr_ok (by decide) hc))) (by rw [g3]; exact hp) (by omega) (fun _ => by rw [g3, ea]) ⟨by omega, by omega⟩ (by omega) (by rw [g4]; rfl)
theorem sx0 (hS0 : ab_Sh sx_sk h0) : ∀ (N : Nat) (h : sm_H), 240 - mi_f h 14000 < N → ab_Sh sx_sk h → ab_Fr sn_W h0 h → a ≤ mi_f h 14000 → mi_f h 14000 ≤ mi_f h0 13953 → (∀ j, a ≤ j → j < mi_f h 14000 → j < mi_f h0 13953 ∧ tx_blk (mi_a h0 110 j.toNat)) → me_E (d + 2) 177 0 [some (.inr (.inr 109)), none, none, none] [] h (sx_Q h0 a) := by
  have bn := me_fb (c := 13953) hS0 rfl
  intro N
  induction N with
  | zero => intro h hN hS hF h0 h1; exfalso; omega
  | succ N ih =>
    intro h hN hS hF ha0 ha1 hb
    have en : mi_f h 13953 = mi_f h0 13953 := me_f (c := 13953) hF hS0 rfl rfl
    have ea : mi_a h 110 = mi_a h0 110 := funext (fun i => me_a (k := 110) hF hS0 rfl rfl)
    have on : tx_blk (mi_a h 110 (mi_f h 14000).toNat) → mi_f h 14000 < mi_f h 13953 → ∀ h1, ab_Sh sx_sk h1 → mi_f h1 14000 = mi_f h 14000 + 1 → ab_Fr [(14000, 14001)] h h1 → me_E (d + 2) 177 0 [some (.inr (.inr 109)), none, none, none] [] h1 (sx_Q h0 a) := fun hk hl h1 g1 g2 g3 => by
      refine ih h1 (by omega) g1 (hF.trans (g3.wide (fun c hc => ab_swr_ok (by decide) hc))) (by omega) (by omega) (fun j a1 a2 => ?_)
      by_cases e : j = mi_f h 14000
      · rw [e]
        rw [ea] at hk
        exact ⟨by omega, hk⟩
      · exact hb j a1 (by omega)
    have fin : ¬ (mi_f h 14000 < mi_f h0 13953 ∧ tx_blk (mi_a h0 110 (mi_f h 14000).toNat)) → ∀ h1, ab_Sh sx_sk h1 → ab_Fr [] h h1 → me_E (d + 2) 177 39 [some (.inr (.inr 109)), none, none, none] [] h1 (sx_Q h0 a) := fun hn h1 g1 g2 => by
      have e := me_nil g2
      subst e
      exact sx39 hS0 hS hF ⟨ha0, hb, hn⟩ ha1
    refine mt_scA hS ?_ ?_ ?_ ?_
    · intro b b2 c
      exact fin (fun x => by omega)
    · intro b b2 c c2
      refine ⟨⟨⟨by omega, by omega⟩, ⟨by omega, by omega⟩, ⟨by omega, by omega⟩⟩, on (Or.inl c2) c⟩
    · intro b b2 c c2 c3
      refine ⟨⟨by omega, by omega⟩, fin (fun x => ?_)⟩
      rw [ea] at c2 c3
      exact x.2.elim c2 c3
    · intro b b2 c c2 c3
      refine ⟨⟨⟨by omega, by omega⟩, ⟨by omega, by omega⟩, ⟨by omega, by omega⟩⟩, on (Or.inr c3) c⟩
/-- scan tells the token at the place where it stands -/
theorem me_scanx (hS : ab_Sh sx_sk h) (ha : mi_f h 14000 ≤ mi_f h 13953) : me_E (d + 2) 177 0 [some (.inr (.inr 109)), none, none, none] [] h (sx_Q h (mi_f h 14000)) := by
  have bn := me_fb (c := 13953) hS rfl
  exact sx0 hS 242 h (by have := me_fb (c := 14000) hS rfl; omega) hS ab_Fr.refl (Int.le_refl _) ha (fun j a1 a2 => by omega)
end SCY
