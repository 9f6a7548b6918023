/-! the class's takeToken, exactly -/
section PTK
variable {d : Nat} {h : sm_H}
theorem me_pliteral {zo zc : Int} (hS : ab_Sh sx_sk h) (oo : mi_in zo) (oc : mi_in zc) (hm : mi_f h 7698 ≤ 20) : me_E (d + 4) 110 0 [some (.inr (.inr 106)), some (.inl zo), some (.inl zc), none] [] h (fun w h' => h' = h ∧ ∃ z, fx (mi_f h 7698) (mi_a h 75) zc z ∧ w = some (.inl (if z = -1 then zo else 3 + z))) := by
  refine mt_kplA hS oo oc ?_
  intro h1 g1 g2
  have e := me_nil g2
  subst e
  refine ⟨_, me_gliteral (d := d + 2) hS oc hm, fun w h2 hw hq => ?_⟩
  obtain ⟨rfl, z, rfl, hz⟩ := hq
  have zb : -1 ≤ z ∧ z < 20 := by
    rcases hz with ⟨a, b, -⟩ | ⟨a, -⟩
    · omega
    · omega
  refine mt_kplB hS oo oc ⟨by omega, by omega⟩ ?_ ?_
  · intro c
    refine ⟨⟨by omega, by omega⟩, fun h3 r1 r2 => ⟨me_nil r2, z, hz, by rw [if_neg c]⟩⟩
  · intro c h3 r1 r2
    exact ⟨me_nil r2, z, hz, by rw [if_pos c]⟩
/-- a number: its worth, digit by digit -/
theorem pm47 (hS0 : ab_Sh sx_sk h) {s e : Int} (s0 : 0 ≤ s) (he : e ≤ mi_f h 6913) (e4 : e - s ≤ 4) (hd : ∀ j, s ≤ j → j < e → tx_dig (mi_a h 55 j.toNat)) : ∀ (K : Nat) (zk : Int) (h1 : sm_H), e - zk = K → s ≤ zk → zk ≤ e → ab_Sh sx_sk h1 → ab_Fr [(13575, 13576), (13577, 13579)] h h1 → mi_f h1 13577 = 1 → mi_f h1 13575 = e → mi_f h1 13578 = tx_dec (mi_a h 55) s (zk - s).toNat → me_E (d + 6) 107 47 [some (.inr (.inr 106)), some (.inl zk)] [] h1 (fun w h' => w = none ∧ ab_Sh sx_sk h' ∧ ab_Fr [(13575, 13576), (13577, 13579)] h h' ∧ mi_f h' 13577 = 1 ∧ mi_f h' 13575 = e ∧ mi_f h' 13578 = tx_dec (mi_a h 55) s (e - s).toNat) := by
  intro K
  induction K with
  | zero =>
    intro zk h1 hK k0 k1 hS hF h7 h5 h8
    have ek : zk = e := by omega
    subst ek
    have bn := me_fb (c := 6913) hS0 rfl
    refine mt_kpmC hS ⟨by omega, by omega⟩ (by intros; exfalso; omega) ?_ (by intros; exfalso; omega) (by intros; exfalso; omega) (by intros; exfalso; omega) (by intros; exfalso; omega)
    intro b b2 c1 c2 h2 g1 g2
    have e := me_nil g2
    subst e
    exact ⟨rfl, hS, hF, h7, h5, h8⟩
  | succ K ih =>
    intro zk h1 hK k0 k1 hS hF h7 h5 h8
    have f13 : mi_f h1 6913 = mi_f h 6913 := me_f (c := 6913) hF hS0 rfl rfl
    have f55 : ∀ i, mi_a h1 55 i = mi_a h 55 i := fun i => me_a (k := 55) hF hS0 rfl rfl
    have bn := me_fb (c := 6913) hS0 rfl
    obtain ⟨d1, d2⟩ := hd zk k0 (by omega)
    have db := tx_dec_b (c := mi_a h 55) (k := s) (zk - s).toNat (fun j j0 j1 => hd j j0 (by omega))
    have p4 : (10 : Int) ^ (zk - s).toNat ≤ 10 ^ 4 := by
      have : (10 : Nat) ^ (zk - s).toNat ≤ 10 ^ 4 := Nat.pow_le_pow_right (by decide) (by omega)
      exact_mod_cast this
    have e44 : (10 : Int) ^ 4 = 10000 := by decide
    rw [← h8] at db
    refine mt_kpmC hS ⟨by omega, by omega⟩ (by intros; exfalso; omega) (by intros; exfalso; omega) (by intros; exfalso; omega) (by intros; exfalso; omega) (by intros; exfalso; omega) ?_
    intro b b2 b3 b4 c1 c2 c3 c4 c5
    have ea := f55 zk.toNat
    refine ⟨⟨⟨by omega, by omega⟩, ⟨by omega, by omega⟩, ⟨by omega, by omega⟩, ⟨by omega, by omega⟩, ⟨by omega, by omega⟩, by omega, by omega⟩, fun h2 g1 g2 g3 => ?_⟩
    refine ih (zk + 1) h2 (by omega) (by omega) (by omega) g1 (hF.trans (g3.wide (fun c hc => ab_swr_ok (by decide) hc))) ((me_f (c := 13577) g3 hS rfl rfl).trans h7) ((me_f (c := 13575) g3 hS rfl rfl).trans h5) ?_
    have en : (zk + 1 - s).toNat = (zk - s).toNat + 1 := by omega
    have ez : (s + ((zk - s).toNat : Int)).toNat = zk.toNat := by omega
    rw [g2, en, h8, ea]
    show _ = 10 * tx_dec (mi_a h 55) s (zk - s).toNat + (mi_a h 55 (s + ((zk - s).toNat : Int)).toNat - 48)
    rw [ez]
    omega
theorem me_pnumber (hS : ab_Sh sx_sk h) {s : Int} (hs : mi_f h 13576 = s) (s1 : s < mi_f h 6913) (hd : tx_dig (mi_a h 55 s.toNat)) : me_E (d + 6) 107 0 [some (.inr (.inr 106)), none] [] h (fun w h' => w = none ∧ ab_Sh sx_sk h' ∧ ab_Fr [(13575, 13576), (13577, 13579)] h h' ∧ ∃ e, tx_end tx_dig (mi_f h 6913) (mi_a h 55) s e ∧ mi_f h' 13575 = e ∧ ((e - s ≤ 4 ∧ mi_f h' 13577 = 1 ∧ mi_f h' 13578 = tx_dec (mi_a h 55) s (e - s).toNat) ∨ (4 < e - s ∧ mi_f h' 13577 = -1))) := by
  have b76 := me_fb (c := 13576) hS rfl
  have bn := me_fb (c := 6913) hS rfl
  refine mt_kpmA hS ?_
  intro h1 g1 g2
  have e := me_nil g2
  subst e
  refine ⟨_, me_jdigits (d := d + 4) hS (by omega) (by omega), fun w h2 hw hq => ?_⟩
  obtain ⟨rfl, e, rfl, he⟩ := hq
  rw [hs] at he
  have en := tx_end_n he (by omega)
  have e0 := he.1
  refine mt_kpmB hS ⟨by omega, by omega⟩ ?_ ?_
  · intro b c
    refine ⟨⟨⟨by omega, by omega⟩, by omega, by omega⟩, fun h3 r1 r2 r3 r4 r5 => ?_⟩
    refine mt_kpmC r1 (by rw [hs]; exact ⟨by omega, by omega⟩) ?_ (by intros; exfalso; omega) (by intros; exfalso; omega) (by intros; exfalso; omega) (by intros; exfalso; omega) (by intros; exfalso; omega)
    intro b2 c2 h4 u1 u2
    have e' := me_nil u2
    subst e'
    exact ⟨rfl, r1, r5, e, he, r2, Or.inr ⟨by omega, r3⟩⟩
  · intro b c
    refine ⟨⟨⟨by omega, by omega⟩, by omega, by omega⟩, fun h3 r1 r2 r3 r4 r5 => ?_⟩
    rw [hs] at c ⊢
    refine (pm47 hS (s := s) (e := e) (by omega) en (by omega) (fun j j0 j1 => (he.2.1 j j0 j1).2) (e - s).toNat s h3 (by omega) (by omega) e0 r1 r5 r3 r2 (by rw [r4, Int.sub_self]; rfl)).imp (fun w h' hq => ?_)
    obtain ⟨q1, q2, q3, q4, q5, q6⟩ := hq
    exact ⟨q1, q2, q3, e, he, q5, Or.inl ⟨by omega, q4, q6⟩⟩
theorem me_pword (hS : ab_Sh sx_sk h) (hm : mi_f h 7698 ≤ 20) {s : Int} (hs : mi_f h 13576 = s) (s1 : s < mi_f h 6913) : me_E (d + 6) 109 0 [some (.inr (.inr 106))] [] h (fun w h' => w = none ∧ ab_Sh sx_sk h' ∧ ab_Fr [(13575, 13576), (13577, 13579)] h h' ∧ ∃ e, tx_end tx_low (mi_f h 6913) (mi_a h 55) s e ∧ mi_f h' 13575 = e ∧ ((e - s ≤ 6 ∧ mi_f h' 13578 = tx_code (mi_a h 55) s (e - s).toNat ∧ ∃ z, fx (mi_f h 7698) (mi_a h 75) (tx_code (mi_a h 55) s (e - s).toNat) z ∧ mi_f h' 13577 = if z = -1 then 2 else 3 + z) ∨ (6 < e - s ∧ mi_f h' 13577 = -1))) := by
  have b76 := me_fb (c := 13576) hS rfl
  have bn := me_fb (c := 6913) hS rfl
  refine mt_kpoA hS ?_
  intro h1 g1 g2
  have e := me_nil g2
  subst e
  refine ⟨_, me_jletters (d := d + 4) hS (by omega) (by omega), fun w h2 hw hq => ?_⟩
  obtain ⟨rfl, e, rfl, he⟩ := hq
  rw [hs] at he
  have en := tx_end_n he (by omega)
  have e0 := he.1
  refine mt_kpoB hS ⟨by omega, by omega⟩ ?_ ?_
  · intro b c
    refine ⟨⟨⟨by omega, by omega⟩, by omega, by omega⟩, fun h3 r1 r2 r3 r5 => ?_⟩
    exact ⟨rfl, r1, r5.wide (fun c hc => ab_swr_ok (by decide) hc), e, he, r2, Or.inr ⟨by omega, r3⟩⟩
  · intro b c
    refine ⟨⟨⟨by omega, by omega⟩, by omega, by omega⟩, fun h3 r1 r2 r3 r5 => ?_⟩
    have f13 : mi_f h3 6913 = mi_f h2 6913 := me_f (c := 6913) r5 hS rfl rfl
    have f55 : mi_a h3 55 = mi_a h2 55 := funext fun i => me_a (k := 55) r5 hS rfl rfl
    rw [hs]
    refine ⟨_, me_jcode (d := d + 4) r1 (zf := s) (zt := e) (by omega) e0 (by omega) (by omega) (fun j j0 j1 => by rw [f55]; exact (he.2.1 j j0 j1).2), fun w h4 hw hq => ?_⟩
    obtain ⟨rfl, rfl⟩ := hq
    rw [f55] at hw ⊢
    refine mt_kpoC r1 (hw _ rfl) ?_
    intro h5 u1 u2 u3
    have F5 : ab_Fr [(13575, 13576), (13577, 13579)] h2 h5 := (r5.wide (fun c hc => ab_swr_ok (by decide) hc)).trans (u3.wide (fun c hc => ab_swr_ok (by decide) hc))
    have f98 : mi_f h5 7698 = mi_f h2 7698 := me_f (c := 7698) F5 hS rfl rfl
    have f75 : mi_a h5 75 = mi_a h2 75 := funext fun i => me_a (k := 75) F5 hS rfl rfl
    refine ⟨_, me_pliteral (d := d + 1) u1 ⟨by decide, by decide⟩ (hw _ rfl) (by omega), fun w h6 hw6 hq => ?_⟩
    obtain ⟨rfl, z, hz, rfl⟩ := hq
    rw [f98, f75] at hz
    refine mt_kpoD u1 (hw6 _ rfl) ?_
    intro h7 v1 v2 v3
    exact ⟨rfl, v1, F5.trans (v3.wide (fun c hc => ab_swr_ok (by decide) hc)), e, he, by rw [me_f (c := 13575) v3 u1 rfl rfl, me_f (c := 13575) u3 r1 rfl rfl]; exact r2, Or.inl ⟨by omega, by rw [me_f (c := 13578) v3 u1 rfl rfl]; exact u2, z, hz, v2⟩⟩
def ptk_Q (h : sm_H) (a : Int) (w : Option mi_V) (h' : sm_H) : Prop := w = none ∧ ab_Sh sx_sk h' ∧ ab_Fr [(13571, 13572), (13575, 13580)] h h' ∧ ∃ k v s e, tq_T (mi_f h 6913) (mi_a h 55) (mi_f h 7698) (mi_a h 75) a k v s e ∧ mi_f h' 13577 = k ∧ ((k = 1 ∨ k = 2) → mi_f h' 13578 = v) ∧ mi_f h' 13575 = e ∧ ((k = -1 ∧ mi_f h' 13571 = 1 ∧ 0 ≤ mi_f h' 13579) ∨ (k ≠ -1 ∧ mi_f h' 13571 = mi_f h 13571 ∧ mi_f h' 13579 = mi_f h 13579))
theorem me_ptake {a : Int} (hS : ab_Sh sx_sk h) (hm : mi_f h 7698 ≤ 20) (ha : mi_f h 13575 = a) (a1 : a ≤ mi_f h 6913) : me_E (d + 8) 106 0 [some (.inr (.inr 106)), none] [] h (ptk_Q h a) := by
  have b75 := me_fb (c := 13575) hS rfl
  have bn := me_fb (c := 6913) hS rfl
  refine mt_kptA hS ?_
  intro h1 g1 g2
  have e := me_nil g2
  subst e
  refine ⟨_, me_jblanks (d := d + 6) hS (by omega) (by omega), fun w h2 hw hq => ?_⟩
  obtain ⟨rfl, s, rfl, hs⟩ := hq
  rw [ha] at hs
  have sn := tx_end_n hs a1
  have s0 := hs.1
  -- from 108 on
  have go108 : ∀ (zc : Int) (h5 : sm_H) (k v e : Int), mi_in zc → ab_Sh sx_sk h5 → ab_Fr [(13575, 13579)] h2 h5 → mi_f h5 13576 = s → tq_T (mi_f h2 6913) (mi_a h2 55) (mi_f h2 7698) (mi_a h2 75) a k v s e → mi_f h5 13577 = k → ((k = 1 ∨ k = 2) → mi_f h5 13578 = v) → mi_f h5 13575 = e → me_E (d + 8) 106 108 [some (.inr (.inr 106)), some (.inl zc)] [] h5 (ptk_Q h2 a) := by
    intro zc h5 k v e oc t1 t2 t3 t4 t5 t6 t7
    refine mt_kptG t1 oc ?_ ?_
    · intro b c h6 u1 u2
      have e' := me_nil u2
      subst e'
      exact ⟨rfl, t1, t2.wide (fun c hc => ab_swr_ok (by decide) hc), k, v, s, e, t4, t5, t6, t7, Or.inr ⟨by omega, me_f (c := 13571) t2 hS rfl rfl, me_f (c := 13579) t2 hS rfl rfl⟩⟩
    · intro b c h6 u1 u2 u3 u4
      refine ⟨rfl, u1, (t2.wide (fun c hc => ab_swr_ok (by decide) hc)).trans (u4.wide (fun c hc => ab_swr_ok (by decide) hc)), k, v, s, e, t4, (me_f (c := 13577) u4 t1 rfl rfl).trans t5, fun q => by omega, (me_f (c := 13575) u4 t1 rfl rfl).trans t7, Or.inl ⟨by omega, u2, by omega⟩⟩
  -- from 27 on
  have go27 : ∀ (zc : Int) (h3 : sm_H), mi_in zc → (s < mi_f h2 6913 → zc = mi_a h2 55 s.toNat) → ab_Sh sx_sk h3 → mi_f h3 13576 = s → ab_Fr [(13576, 13577)] h2 h3 → me_E (d + 8) 106 27 [some (.inr (.inr 106)), some (.inl zc)] [] h3 (ptk_Q h2 a) := by
    intro zc h3 oc hzc r1 r2 r3
    have f13 : mi_f h3 6913 = mi_f h2 6913 := me_f (c := 6913) r3 hS rfl rfl
    have f55 : mi_a h3 55 = mi_a h2 55 := funext fun i => me_a (k := 55) r3 hS rfl rfl
    have f98 : mi_f h3 7698 = mi_f h2 7698 := me_f (c := 7698) r3 hS rfl rfl
    have f75 : mi_a h3 75 = mi_a h2 75 := funext fun i => me_a (k := 75) r3 hS rfl rfl
    have F3 : ab_Fr [(13575, 13579)] h2 h3 := r3.wide (fun c hc => ab_swr_ok (by decide) hc)
    -- a sign
    have sgn : s < mi_f h2 6913 → ¬ tx_dig zc → ¬ tx_low zc → ∀ h4, ab_Sh sx_sk h4 → mi_f h4 13575 = mi_f h3 13576 + 1 → ab_Fr [(13575, 13576)] h3 h4 → ∃ Q1, me_E (d + 7) 110 0 (mi_entry 4 [.inr (.inr 106), .inl (-1 : Int), .inl (-zc)]) [] h4 Q1 ∧ ∀ w h5, (∀ x, w = some x → mi_ok x) → Q1 w h5 → me_E (d + 8) 106 105 [some (.inr (.inr 106)), some (.inl zc)] (mi_back w [.inr (.inr 106)]) h5 (ptk_Q h2 a) := by
      intro hlt nd nl h4 t1 t2 t3
      have ez := hzc hlt
      have bz := me_ab (k := 55) (i := s.toNat) hS rfl (by decide) (by omega)
      have g98 : mi_f h4 7698 = mi_f h2 7698 := (me_f (c := 7698) t3 r1 rfl rfl).trans f98
      have g75 : mi_a h4 75 = mi_a h2 75 := (funext fun i => me_a (k := 75) t3 r1 rfl rfl : mi_a h4 75 = mi_a h3 75).trans f75
      refine ⟨_, me_pliteral (d := d + 3) t1 ⟨by decide, by decide⟩ ⟨by omega, by omega⟩ (by omega), fun w h5 hw hq => ?_⟩
      obtain ⟨rfl, z, hz, rfl⟩ := hq
      rw [g98, g75, ez] at hz
      refine mt_kptF t1 oc (hw _ rfl) ?_
      intro h6 u1 u2 u3
      refine go108 zc h6 _ 0 (s + 1) oc u1 ((F3.trans (t3.wide (fun c hc => ab_swr_ok (by decide) hc))).trans (u3.wide (fun c hc => ab_swr_ok (by decide) hc))) (by rw [me_f (c := 13576) u3 t1 rfl rfl, me_f (c := 13576) t3 r1 rfl rfl]; exact r2) ⟨hs, Or.inr ⟨hlt, Or.inr (Or.inr ⟨by rw [← ez]; exact nd, by rw [← ez]; exact nl, rfl, z, hz, rfl⟩)⟩⟩ u2 (fun q => ?_) (by rw [me_f (c := 13575) u3 t1 rfl rfl, t2, r2])
      exfalso
      have zb : z = -1 ∨ 0 ≤ z := by
        rcases hz with ⟨b1, -⟩ | ⟨b1, -⟩
        · exact Or.inr b1
        · exact Or.inl b1
      by_cases c1 : z = -1
      · rw [if_pos c1] at q
        omega
      · rw [if_neg c1] at q
        omega
    -- a word
    have wrd : s < mi_f h2 6913 → tx_low zc → ∃ Q1, me_E (d + 7) 109 0 (mi_entry 1 [.inr (.inr 106)]) [] h3 Q1 ∧ ∀ w h5, (∀ x, w = some x → mi_ok x) → Q1 w h5 → me_E (d + 8) 106 82 [some (.inr (.inr 106)), some (.inl zc)] (mi_back w []) h5 (ptk_Q h2 a) := by
      intro hlt nl
      have ez := hzc hlt
      refine ⟨_, me_pword (d := d + 1) r1 (by omega) r2 (by omega), fun w h5 hw hq => ?_⟩
      obtain ⟨rfl, q1, q2, e, q3, q4, q5⟩ := hq
      rw [f13, f55] at q3
      rw [f55, f98, f75] at q5
      refine mt_kptE q1 oc ?_
      intro h6 u1 u2
      have e' := me_nil u2
      subst e'
      have F6 := F3.trans (q2.wide (fun c hc => ab_swr_ok (wr' := [(13575, 13579)]) (by decide) hc))
      have e76 : mi_f h6 13576 = s := (me_f (c := 13576) q2 r1 rfl rfl).trans r2
      rcases q5 with ⟨x1, x2, z, x3, x4⟩ | ⟨x1, x2⟩
      · exact go108 zc h6 _ (tx_code (mi_a h2 55) s (e - s).toNat) e oc q1 F6 e76 ⟨hs, Or.inr ⟨hlt, Or.inr (Or.inl ⟨by rw [← ez]; exact nl, q3, Or.inl ⟨x1, rfl, z, x3, rfl⟩⟩)⟩⟩ x4 (fun _ => x2) q4
      · exact go108 zc h6 (-1) 0 e oc q1 F6 e76 ⟨hs, Or.inr ⟨hlt, Or.inr (Or.inl ⟨by rw [← ez]; exact nl, q3, Or.inr ⟨x1, rfl⟩⟩)⟩⟩ x2 (fun q => by omega) q4
    refine mt_kptC r1 oc ?_ ?_ ?_ ?_ ?_ ?_ ?_ ?_
    · intro b b2 c1 c2 c3
      have bz := me_ab (k := 55) (i := s.toNat) hS rfl (by decide) (by omega)
      have ez := hzc (by omega)
      refine ⟨by omega, fun h4 t1 t2 t3 => sgn (by omega) (fun q => by have := q.1; omega) (fun q => by have := q.1; omega) h4 t1 t2 t3⟩
    · intro b b2 c1 c2 c3 c4
      exfalso; omega
    · intro b b2 c1 c2 c3 c4
      exfalso; omega
    · intro b b2 c1 c2 c3 c4
      have bz := me_ab (k := 55) (i := s.toNat) hS rfl (by decide) (by omega)
      have ez := hzc (by omega)
      refine ⟨by omega, fun h4 t1 t2 t3 => sgn (by omega) (fun q => by have := q.2; omega) (fun q => by have := q.1; omega) h4 t1 t2 t3⟩
    · intro b b2 c1 c2 c3 c4 c5
      have bz := me_ab (k := 55) (i := s.toNat) hS rfl (by decide) (by omega)
      have ez := hzc (by omega)
      refine ⟨by omega, fun h4 t1 t2 t3 => sgn (by omega) (fun q => by have := q.2; omega) (fun q => by have := q.2; omega) h4 t1 t2 t3⟩
    · intro b b2 c1 c2 c3 c4 c5 h4 t1 t2
      have e' := me_nil t2
      subst e'
      exact wrd (by omega) ⟨c4, c5⟩
    · intro b b2 c1 c2 c3 h4 t1 t2
      have e' := me_nil t2
      subst e'
      have ez := hzc (by omega)
      refine ⟨_, me_pnumber (d := d + 1) t1 r2 (by omega) (by rw [f55, ← ez]; exact ⟨c2, c3⟩), fun w h5 hw hq => ?_⟩
      obtain ⟨rfl, q1, q2, e, q3, q4, q5⟩ := hq
      rw [f13, f55] at q3
      rw [f55] at q5
      refine mt_kptD q1 oc ?_
      intro h6 u1 u2
      have e' := me_nil u2
      subst e'
      have F6 := F3.trans (q2.wide (fun c hc => ab_swr_ok (wr' := [(13575, 13579)]) (by decide) hc))
      have e76 : mi_f h6 13576 = s := (me_f (c := 13576) q2 r1 rfl rfl).trans r2
      rcases q5 with ⟨x1, x2, x3⟩ | ⟨x1, x2⟩
      · exact go108 zc h6 1 (tx_dec (mi_a h2 55) s (e - s).toNat) e oc q1 F6 e76 ⟨hs, Or.inr ⟨by omega, Or.inl ⟨by rw [← ez]; exact ⟨c2, c3⟩, q3, Or.inl ⟨x1, rfl, rfl⟩⟩⟩⟩ x2 (fun _ => x3) q4
      · exact go108 zc h6 (-1) 0 e oc q1 F6 e76 ⟨hs, Or.inr ⟨by omega, Or.inl ⟨by rw [← ez]; exact ⟨c2, c3⟩, q3, Or.inr ⟨x1, rfl⟩⟩⟩⟩ x2 (fun q => by omega) q4
    · intro b b2 c1
      refine ⟨by omega, fun h4 t1 t2 t3 t4 => ?_⟩
      exact go108 zc h4 0 0 s oc t1 (F3.trans (t4.wide (fun c hc => ab_swr_ok (by decide) hc))) (by rw [me_f (c := 13576) t4 r1 rfl rfl]; exact r2) ⟨hs, Or.inl ⟨by omega, rfl, rfl⟩⟩ t3 (fun q => by omega) (t2.trans r2)
  refine mt_kptB hS ⟨by omega, by omega⟩ (by intros; exfalso; omega) ?_ (by intros; exfalso; omega) ?_
  · intro b c1 c2
    refine ⟨⟨by omega, by omega⟩, fun h3 r1 r2 r3 => go27 32 h3 ⟨by decide, by decide⟩ (fun q => by omega) r1 r2 r3⟩
  · intro b c1 c2 c3
    have bz := me_ab (k := 55) (i := s.toNat) hS rfl (by decide) (by omega)
    refine ⟨⟨⟨by omega, by omega⟩, ⟨by omega, by omega⟩, bz.1, bz.2⟩, fun h3 r1 r2 r3 => go27 _ h3 ⟨by omega, by omega⟩ (fun _ => rfl) r1 r2 r3⟩
/-- so takeToken takes the tokens one by one -/
theorem pq_tok_of {E : pm_E} {p : Int → Int} {N : Int} {h0 : sm_H} (hm : mi_f h0 7698 ≤ 20) (hq : tq_S (mi_f h0 6913) (mi_a h0 55) (mi_f h0 7698) (mi_a h0 75) E.1 E.2.1 p N) : pq_tok E p N h0 := by
  intro d h j hS hx j0 j1 hp
  obtain ⟨x1, x2, x3, x4⟩ := hx
  obtain ⟨-, q2, -, -⟩ := hq
  obtain ⟨b1, b2, s', hs'⟩ := q2 j j0 j1
  refine (me_ptake (d := d) (a := p j) hS (by omega) hp (by omega)).imp (fun w h' hq => ?_)
  obtain ⟨q1, q2, q3, k, v, s, e, q4, q5, q6, q7, q8⟩ := hq
  have e55 : mi_a h 55 = mi_a h0 55 := funext x2
  have e75 : mi_a h 75 = mi_a h0 75 := funext x4
  rw [x1, e55, x3, e75] at q4
  obtain ⟨u1, u2, u3, u4⟩ := tq_u q4 hs'
  refine ⟨q1, q2, q3, by omega, fun q => ?_, by omega, ?_⟩
  · rw [q6 (by omega)]
    exact u4 (by omega)
  · rw [← u1]
    exact q8
end PTK
