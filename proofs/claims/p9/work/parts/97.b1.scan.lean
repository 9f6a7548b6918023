/-! the reference's scan, exactly -/
section SCX
variable {d : Nat} {h0 : sm_H} {zb zk : Int}
theorem lx54 (hS0 : ab_Sh sx_sk h0) (b0 : 0 ≤ zb) (bk : zb ≤ zk) (k6 : zk - zb ≤ 6) (k1 : zk ≤ 240) (hl : ∀ j, zb ≤ j → j < zk → tx_low (mi_a h0 110 j.toNat)) : ∀ (N : Nat) (zj : Int) (h : sm_H), zj - zb + 1 < N → zb - 1 ≤ zj → zj < zk → ab_Sh sx_sk h → ab_Fr [(14004, 14005)] h0 h → (mx_l h 14004).toInt = tx_code (mi_a h0 110) (zj + 1) (zk - 1 - zj).toNat → me_E (d + 1) 181 54 [some (.inr (.inr 109)), some (.inl zb), some (.inl zk), some (.inl zj)] [] h (fun w h' => w = some (.inl zk) ∧ ab_Sh sx_sk h' ∧ ab_Fr [(14004, 14005)] h0 h' ∧ (mx_l h' 14004).toInt = tx_code (mi_a h0 110) zb (zk - zb).toNat) := by
  intro N
  induction N with
  | zero => intro zj h hN j0; exfalso; omega
  | succ N ih =>
    intro zj h hN j0 j1 hS hF hv
    have ob : mi_in zb := ⟨by omega, by omega⟩
    have ok : mi_in zk := ⟨by omega, by omega⟩
    have oj : mi_in zj := ⟨by omega, by omega⟩
    refine mt_lxD hS ob ok oj ?_ ?_
    · intro c h1 g1 g2
      have e := me_nil g2
      subst e
      have ej : zj = zb - 1 := by omega
      subst ej
      refine ⟨rfl, hS, hF, ?_⟩
      rw [hv, show zb - 1 + 1 = zb by omega, show zk - 1 - (zb - 1) = zk - zb by omega]
    · intro c
      have ea : mi_a h 110 zj.toNat = mi_a h0 110 zj.toNat := me_a (k := 110) hF hS0 rfl rfl
      obtain ⟨x0, x1⟩ := hl zj c j1
      have em : (zk - 1 - zj).toNat + 1 = (zk - 1 - (zj - 1)).toNat := by omega
      have cb := tx_code_b (c := mi_a h0 110) (zk - 1 - zj).toNat (zj + 1) (fun j a1 a2 => hl j (by omega) (by omega))
      have p5 : (32 : Int) ^ (zk - 1 - zj).toNat ≤ 32 ^ 5 := by
        have : (32 : Nat) ^ (zk - 1 - zj).toNat ≤ 32 ^ 5 := Nat.pow_le_pow_right (by decide) (by omega)
        exact_mod_cast this
      have e32 : (32 : Int) ^ 5 = 33554432 := by decide
      have pk := tx_pack (V := mx_l h 14004) (X := mi_a h0 110 zj.toNat) (by omega) (by omega) x0 x1
      rw [ea, pk, hv]
      refine ⟨⟨⟨by omega, by omega⟩, ⟨by omega, by omega⟩, ⟨by omega, by omega⟩⟩, fun h1 g1 g2 g3 => ?_⟩
      refine ih (zj + -1) h1 (by omega) (by omega) (by omega) g1 (hF.trans g3) ?_
      rw [g2, pk, hv, show zk - 1 - (zj + -1) = zk - 1 - (zj - 1) by omega, ← em, show zj + -1 + 1 = zj by omega]
      rfl
theorem lx2 (hS0 : ab_Sh sx_sk h0) (b0 : 0 ≤ zb) : ∀ (N : Nat) (zk : Int), 240 - zk < N → zb ≤ zk → zk ≤ mi_f h0 13953 → (∀ j, zb ≤ j → j < zk → j < mi_f h0 13953 ∧ tx_low (mi_a h0 110 j.toNat)) → me_E (d + 1) 181 2 [some (.inr (.inr 109)), some (.inl zb), some (.inl zk), none] [] h0 (fun w h' => ∃ e, w = some (.inl e) ∧ tx_end tx_low (mi_f h0 13953) (mi_a h0 110) zb e ∧ ab_Sh sx_sk h' ∧ ab_Fr [(14004, 14005)] h0 h' ∧ ((6 < e - zb ∧ (mx_l h' 14004).toInt = -1) ∨ (e - zb ≤ 6 ∧ (mx_l h' 14004).toInt = tx_code (mi_a h0 110) zb (e - zb).toNat))) := by
  have bn := me_fb (c := 13953) hS0 rfl
  intro N
  induction N with
  | zero => intro zk hN j0 j1; exfalso; omega
  | succ N ih =>
    intro zk hN j0 j1 hl
    have ob : mi_in zb := ⟨by omega, by omega⟩
    have ok : mi_in zk := ⟨by omega, by omega⟩
    have fin : ¬ (zk < mi_f h0 13953 ∧ tx_low (mi_a h0 110 zk.toNat)) → me_E (d + 1) 181 28 [some (.inr (.inr 109)), some (.inl zb), some (.inl zk), none] [] h0 (fun w h' => ∃ e, w = some (.inl e) ∧ tx_end tx_low (mi_f h0 13953) (mi_a h0 110) zb e ∧ ab_Sh sx_sk h' ∧ ab_Fr [(14004, 14005)] h0 h' ∧ ((6 < e - zb ∧ (mx_l h' 14004).toInt = -1) ∨ (e - zb ≤ 6 ∧ (mx_l h' 14004).toInt = tx_code (mi_a h0 110) zb (e - zb).toNat))) := fun hc => by
      have he : tx_end tx_low (mi_f h0 13953) (mi_a h0 110) zb zk := ⟨j0, hl, hc⟩
      refine mt_lxC hS0 ob ok ?_ ?_
      · intro c
        refine ⟨⟨⟨by omega, by omega⟩, ⟨by omega, by omega⟩⟩, fun h1 g1 g2 g3 => ?_⟩
        refine (lx54 hS0 b0 j0 c (by omega) (fun j a1 a2 => (hl j a1 a2).2) 8 (zk - 1) h1 (by omega) (by omega) (by omega) g1 g3 ?_).imp (fun w h' hq => ?_)
        · rw [g2, show zk - 1 - (zk - 1) = 0 by omega]
          rfl
        · obtain ⟨q1, q2, q3, q4⟩ := hq
          exact ⟨zk, q1, he, q2, q3, Or.inr ⟨c, q4⟩⟩
      · intro c
        refine ⟨⟨by omega, by omega⟩, fun h1 g1 g2 g3 => ⟨zk, rfl, he, g1, g3, Or.inl ⟨c, ?_⟩⟩⟩
        rw [g2]
        decide
    refine mt_lxB hS0 ob ok ?_ ?_ ?_ ?_
    · intro b c h1 g1 g2
      have e := me_nil g2
      subst e
      exact fin (fun x => by omega)
    · intro b c c2
      refine ⟨⟨by omega, by omega⟩, fun h1 g1 g2 => ?_⟩
      have e := me_nil g2
      subst e
      exact fin (fun x => by have := x.2.1; omega)
    · intro b c c2 c3
      refine ⟨⟨by omega, by omega⟩, fun h1 g1 g2 => ?_⟩
      have e := me_nil g2
      subst e
      exact fin (fun x => by have := x.2.2; omega)
    · intro b c c2 c3
      refine ⟨⟨⟨by omega, by omega⟩, ⟨by omega, by omega⟩⟩, fun h1 g1 g2 => ?_⟩
      have e := me_nil g2
      subst e
      refine ih (zk + 1) (by omega) (by omega) (by omega) (fun j a1 a2 => ?_)
      by_cases ej : j = zk
      · subst ej
        exact ⟨c, c2, c3⟩
      · exact hl j a1 (by omega)
def lx_Q (h0 : sm_H) (zb : Int) (w : Option mi_V) (h' : sm_H) : Prop := ∃ e, w = some (.inl e) ∧ tx_end tx_low (mi_f h0 13953) (mi_a h0 110) zb e ∧ ab_Sh sx_sk h' ∧ ab_Fr [(14004, 14005)] h0 h' ∧ ((6 < e - zb ∧ (mx_l h' 14004).toInt = -1) ∨ (e - zb ≤ 6 ∧ (mx_l h' 14004).toInt = tx_code (mi_a h0 110) zb (e - zb).toNat))
theorem me_lettersx (hS0 : ab_Sh sx_sk h0) (b0 : 0 ≤ zb) (b1 : zb ≤ mi_f h0 13953) : me_E (d + 1) 181 0 [some (.inr (.inr 109)), some (.inl zb), none, none] [] h0 (lx_Q h0 zb) := by
  have bn := me_fb (c := 13953) hS0 rfl
  refine mt_lxA hS0 ⟨by omega, by omega⟩ (fun h1 g1 g2 => ?_)
  have e := me_nil g2
  subst e
  exact lx2 hS0 b0 242 zb (by omega) (by omega) b1 (fun j a1 a2 => by omega)
/-- what scan leaves: the token at the place where it began -/
def sx_Q (h0 : sm_H) (a : Int) (w : Option mi_V) (h' : sm_H) : Prop := w = none ∧ ab_Sh sx_sk h' ∧ ab_Fr sn_W h0 h' ∧ tk_T (mi_f h0 13953) (mi_a h0 110) a (mi_f h' 14001) (mx_l h' 14004).toInt (mi_f h' 14002) (mi_f h' 14000)
variable {h : sm_H} {zc a : Int}
/-- the place is known, the character is not of a word, no letter, no digit, no mark of a keyword or sign -/
theorem sx336 (hS0 : ab_Sh sx_sk h0) (hS : ab_Sh sx_sk h) (hF : ab_Fr sn_W h0 h) (hp : tx_end tx_blk (mi_f h0 13953) (mi_a h0 110) a (mi_f h 14002)) (hpn : mi_f h 14002 < mi_f h0 13953) (hc : zc = mi_a h0 110 (mi_f h 14002).toNat) (oc : mi_in zc) (hat : mi_f h 14000 = mi_f h 14002 + 1) (hv : (mx_l h 14004).toInt = 0) (n1 : ¬ tx_low zc) (n2 : ¬ tx_cap zc) (n3 : ¬ tx_dig zc) (n4 : zc ≠ 34) (n5 : zc ≠ 39) : me_E (d + 2) 177 336 [some (.inr (.inr 109)), some (.inl zc), none, none] [] h (sx_Q h0 a) := by
  have yes : tx_own zc → me_E (d + 2) 177 395 [some (.inr (.inr 109)), some (.inl zc), none, none] [.inl 1] h (sx_Q h0 a) := fun ho => by
    refine mt_scL hS oc ⟨by decide, by decide⟩ (fun x => absurd x (by decide)) (fun _ h1 g1 g2 g3 => ?_)
    have e0 : mi_f h1 14000 = mi_f h 14000 := me_f (c := 14000) g3 hS rfl rfl
    have e2 : mi_f h1 14002 = mi_f h 14002 := me_f (c := 14002) g3 hS rfl rfl
    have e4 : mx_l h1 14004 = mx_l h 14004 := me_l (c := 14004) g3 hS rfl rfl
    refine ⟨rfl, g1, hF.trans (g3.wide (fun c hc => ab_swr_ok (by decide) hc)), ?_⟩
    rw [e0, e2, e4, g2]
    refine ⟨hp, Or.inr ⟨hpn, Or.inr (Or.inr (Or.inr (Or.inr (Or.inr (Or.inl ⟨?_, ?_, hv, hat⟩)))))⟩⟩
    · rw [← hc]; exact ho
    · exact hc
  refine mt_scK hS oc ?_ ?_ ?_ ?_ ?_ ?_ ?_ ?_ ?_ ?_
  · intro c h1 g1 g2; have e := me_nil g2; subst e; exact yes (by unfold tx_own; omega)
  · intro _ c h1 g1 g2; have e := me_nil g2; subst e; exact yes (by unfold tx_own; omega)
  · intro _ _ c h1 g1 g2; have e := me_nil g2; subst e; exact yes (by unfold tx_own; omega)
  · intro _ _ _ c h1 g1 g2; have e := me_nil g2; subst e; exact yes (by unfold tx_own; omega)
  · intro _ _ _ _ c h1 g1 g2; have e := me_nil g2; subst e; exact yes (by unfold tx_own; omega)
  · intro _ _ _ _ _ c h1 g1 g2; have e := me_nil g2; subst e; exact yes (by unfold tx_own; omega)
  · intro _ _ _ _ _ _ c h1 g1 g2; have e := me_nil g2; subst e; exact yes (by unfold tx_own; omega)
  · intro _ _ _ _ _ _ _ c h1 g1 g2; have e := me_nil g2; subst e; exact yes (by unfold tx_own; omega)
  · intro c1 c2 c3 c4 c5 c6 c7 c8 c9 h1 g1 g2
    have e := me_nil g2
    subst e
    refine mt_scL hS oc ⟨by decide, by decide⟩ (fun _ h2 g1 g2 g3 => ?_) (fun x => absurd rfl x)
    have e2 : mi_f h2 14002 = mi_f h1 14002 := me_f (c := 14002) g3 hS rfl rfl
    refine ⟨rfl, g1, hF.trans (g3.wide (fun c hc => ab_swr_ok (by decide) hc)), ?_⟩
    rw [e2, g2]
    refine ⟨hp, Or.inr ⟨hpn, Or.inr (Or.inr (Or.inr (Or.inr (Or.inr (Or.inr ?_)))))⟩⟩
    rw [← hc]
    exact ⟨n1, n2, n3, n4, n5, by unfold tx_own; omega, rfl⟩
  · intro _ _ _ _ _ _ _ _ c h1 g1 g2; have e := me_nil g2; subst e; exact yes (by unfold tx_own; omega)
theorem sx244 (hS0 : ab_Sh sx_sk h0) (hS : ab_Sh sx_sk h) (hF : ab_Fr sn_W h0 h) (hp : tx_end tx_blk (mi_f h0 13953) (mi_a h0 110) a (mi_f h 14002)) (hpn : mi_f h 14002 < mi_f h0 13953) (hc : zc = mi_a h0 110 (mi_f h 14002).toNat) (oc : mi_in zc) (hat : mi_f h 14000 = mi_f h 14002 + 1) (hv : (mx_l h 14004).toInt = 0) (n1 : ¬ tx_low zc) (n2 : ¬ tx_cap zc) (n3 : ¬ tx_dig zc) (n4 : zc ≠ 34) : me_E (d + 2) 177 244 [some (.inr (.inr 109)), some (.inl zc), none, none] [] h (sx_Q h0 a) := by
  have b2 := me_fb (c := 14002) hS rfl
  have bn := me_fb (c := 13953) hS0 rfl
  have en : mi_f h 13953 = mi_f h0 13953 := me_f (c := 13953) hF hS0 rfl rfl
  have ea : ∀ i, mi_a h 110 i = mi_a h0 110 i := fun i => me_a (k := 110) hF hS0 rfl rfl
  /- the sign's character s; q: whether it is one -/
  have fin : ∀ {zs zz : Int}, mi_in zs → -65536 ≤ zs → zs ≤ 1073741823 → (zz = 0 ∨ zz = 1) → zc = 39 → (zz = 1 → mi_f h 14002 + 1 < mi_f h0 13953 ∧ tx_sg (mi_a h0 110 (mi_f h 14002 + 1).toNat) ∧ zs = mi_a h0 110 (mi_f h 14002 + 1).toNat) → (zz = 0 → ¬ (mi_f h 14002 + 1 < mi_f h0 13953 ∧ tx_sg (mi_a h0 110 (mi_f h 14002 + 1).toNat))) → me_E (d + 2) 177 302 [some (.inr (.inr 109)), some (.inl zc), some (.inl zs), none] [.inl zz] h (sx_Q h0 a) := fun {zs zz} os s0 s1 oz c39 y1 y0 => by
    have es : ((Int32.ofInt zs).toInt64).toInt = zs := by rw [Int32.toInt_toInt64, mi_ti os]
    refine mt_scJ hS oc os ⟨by omega, by omega⟩ ?_ ?_
    · intro b c
      rw [es]
      refine ⟨⟨⟨s0, s1⟩, ⟨by omega, by omega⟩, ⟨by omega, by omega⟩⟩, fun h1 g1 g2 g3 g4 g5 => ?_⟩
      have e2 : mi_f h1 14002 = mi_f h 14002 := me_f (c := 14002) g5 hS rfl rfl
      refine ⟨rfl, g1, hF.trans (g5.wide (fun c hc => ab_swr_ok (by decide) hc)), ?_⟩
      rw [e2, g3]
      exact ⟨hp, Or.inr ⟨hpn, Or.inr (Or.inr (Or.inr (Or.inr (Or.inl ⟨by rw [← hc]; exact c39, Or.inr ⟨y0 c, rfl⟩⟩))))⟩⟩
    · intro b c
      rw [es]
      obtain ⟨w1, w2, w3⟩ := y1 (by omega)
      refine ⟨⟨⟨s0, s1⟩, ⟨by omega, by omega⟩, ⟨by omega, by omega⟩⟩, fun h1 g1 g2 g3 g4 g5 => ?_⟩
      have e2 : mi_f h1 14002 = mi_f h 14002 := me_f (c := 14002) g5 hS rfl rfl
      refine ⟨rfl, g1, hF.trans (g5.wide (fun c hc => ab_swr_ok (by decide) hc)), ?_⟩
      rw [e2, g3, g4, es, g2, hat]
      exact ⟨hp, Or.inr ⟨hpn, Or.inr (Or.inr (Or.inr (Or.inr (Or.inl ⟨by rw [← hc]; exact c39, Or.inl ⟨w1, w2, rfl, w3, by omega⟩⟩))))⟩⟩
  have mid : ∀ {zs : Int}, mi_in zs → -65536 ≤ zs → zs ≤ 1073741823 → zc = 39 → ((mi_f h 14002 + 1 < mi_f h0 13953 ∧ zs = mi_a h0 110 (mi_f h 14002 + 1).toNat) ∨ (mi_f h0 13953 ≤ mi_f h 14002 + 1 ∧ zs = 0)) → me_E (d + 2) 177 259 [some (.inr (.inr 109)), some (.inl zc), some (.inl zs), none] [] h (sx_Q h0 a) := fun {zs} os s0 s1 c39 hz => by
    have no : ¬ tx_sg zs → me_E (d + 2) 177 302 [some (.inr (.inr 109)), some (.inl zc), some (.inl zs), none] [.inl 0] h (sx_Q h0 a) := fun hn => fin os s0 s1 (Or.inl rfl) c39 (fun x => absurd x (by decide)) (fun _ x => by
      rcases hz with ⟨z1, z2⟩ | ⟨z1, z2⟩
      · rw [z2] at hn
        exact hn x.2
      · omega)
    have yes : tx_sg zs → me_E (d + 2) 177 302 [some (.inr (.inr 109)), some (.inl zc), some (.inl zs), none] [.inl 1] h (sx_Q h0 a) := fun hn => fin os s0 s1 (Or.inr rfl) c39 (fun _ => by
      rcases hz with ⟨z1, z2⟩ | ⟨z1, z2⟩
      · exact ⟨z1, by rw [← z2]; exact hn, z2⟩
      · have := hn.1
        omega) (fun x => absurd x (by decide))
    unfold tx_sg tx_low tx_dig tx_cap at no yes
    refine mt_scI hS oc os ?_ ?_ ?_ ?_ ?_ ?_ ?_ ?_ ?_ ?_ ?_ ?_ ?_ ?_ ?_ ?_ ?_
    · intro c1 h1 g1 g2; have e := me_nil g2; subst e; exact no (by omega)
    · intro c1 c2 h1 g1 g2; have e := me_nil g2; subst e; exact no (by omega)
    · intro c1 c2 c3 c4 c5 h1 g1 g2; have e := me_nil g2; subst e; exact yes (by omega)
    · intro c1 c2 c3 c4 c5 c6; exfalso; omega
    · intro c1 c2 c3 c4 c5 c6; exfalso; omega
    · intro c1 c2 c3 c4 c5 c6 h1 g1 g2; have e := me_nil g2; subst e; exact yes (by omega)
    · intro c1 c2 c3 c4 c5 c6 c7 h1 g1 g2; have e := me_nil g2; subst e; exact no (by omega)
    · intro c1 c2 c3 c4 c5 c6 c7 h1 g1 g2; have e := me_nil g2; subst e; exact yes (by omega)
    · intro c1 c2 c3 c4 c5 h1 g1 g2; have e := me_nil g2; subst e; exact no (by omega)
    · intro c1 c2 c3 c4 c5 c6; exfalso; omega
    · intro c1 c2 c3 c4 c5 c6 c7; exfalso; omega
    · intro c1 c2 c3 c4 c5 c6 c7; exfalso; omega
    · intro c1 c2 c3 c4 c5 c6 c7; exfalso; omega
    · intro c1 c2 c3 c4 c5 c6 c7 c8; exfalso; omega
    · intro c1 c2 c3 c4 c5 c6 c7 c8 h1 g1 g2; have e := me_nil g2; subst e; exact yes (by omega)
    · intro c1 c2 c3 c4 c5 c6; exfalso; omega
    · intro c1 c2 c3 c4 h1 g1 g2; have e := me_nil g2; subst e; exact no (by omega)
  refine mt_scH hS oc ?_ ?_ ?_
  · intro c h1 g1 g2
    have e := me_nil g2
    subst e
    exact sx336 hS0 hS hF hp hpn hc oc hat hv n1 n2 n3 n4 c
  · intro b1 b3 c c2 h1 g1 g2
    have e := me_nil g2
    subst e
    exact mid ⟨by decide, by decide⟩ (by decide) (by decide) c (Or.inr ⟨by omega, rfl⟩)
  · intro b1 b3 c c2
    have bc := me_ab (k := 110) (i := (mi_f h 14000).toNat) hS rfl (by decide) (by omega)
    refine ⟨⟨by omega, by omega⟩, fun h1 g1 g2 => ?_⟩
    have e := me_nil g2
    subst e
    refine mid ⟨by omega, by omega⟩ (by omega) (by omega) c (Or.inl ⟨by omega, ?_⟩)
    rw [ea, hat]
end SCX
