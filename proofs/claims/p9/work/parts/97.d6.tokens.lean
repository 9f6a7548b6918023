/-! the class's Tokens, exactly -/
def cs_t (t v : Int) : Int := if t = 0 then 0 else if t = 1 then so_c v else if t = 2 then 9 else if t = 3 ∨ t = 4 then 8 else if t = 5 then 11 else if t = 6 then 12 else if t = 40 then 10 else t
def cc_t (t v : Int) : Int := if t = 2 then v + 65 else if t = 3 then v else if t = 4 then -v else if t = 5 then v else 0
def ca_W : List (Nat × Nat) := [(9857, 9861)]
/-- the characters of the description are those that the document allows -/
def cx_ok (h : sm_H) : Prop := ∀ i : Nat, (i : Int) < mi_f h 6657 → mi_a h 53 i = 10 ∨ (32 ≤ mi_a h 53 i ∧ mi_a h 53 i ≤ 126)
def ca_R (h0 h' : sm_H) (a : Int) : Prop := ∃ t v e, tk_T (mi_f h0 6657) (mi_a h0 53) a t v (mi_f h' 9858) e ∧ mi_f h' 9859 = cs_t t v ∧ (t ≠ 0 → t ≠ 6 → cs_t t v ≠ 12 → mi_f h' 9860 = cc_t t v ∧ mi_f h' 9857 = e)
def ca_Q (h0 : sm_H) (a : Int) (w : Option mi_V) (h' : sm_H) : Prop := w = none ∧ ab_Sh sx_sk h' ∧ ab_Fr ca_W h0 h' ∧ ca_R h0 h' a
/-- a taker begins: the blanks are passed -/
def ca_P (h0 h : sm_H) (a : Int) : Prop := ab_Sh sx_sk h0 ∧ ab_Sh sx_sk h ∧ ab_Fr ca_W h0 h ∧ cx_ok h0 ∧ tx_end tx_blk (mi_f h0 6657) (mi_a h0 53) a (mi_f h 9858) ∧ mi_f h 9858 < mi_f h0 6657 ∧ mi_f h 9860 = 0
section CTK
variable {d : Nat} {h0 h : sm_H} {a : Int}
theorem ca_e (hP : ca_P h0 h a) : mi_f h 6657 = mi_f h0 6657 ∧ mi_a h 53 = mi_a h0 53 := ⟨me_f (c := 6657) hP.2.2.1 hP.1 rfl rfl, funext (fun i => me_a (k := 53) hP.2.2.1 hP.1 rfl rfl)⟩
/-- no token: 12 -/
theorem ca_no (hP : ca_P h0 h a) (ht : ∀ v e, tk_T (mi_f h0 6657) (mi_a h0 53) a 6 v (mi_f h 9858) e) {h1 : sm_H} {wr : List (Nat × Nat)} (hw : ab_sub_wr wr [(9857, 9858), (9859, 9861)] = true) (g1 : ab_Sh sx_sk h1) (g2 : mi_f h1 9859 = 12) (g3 : ab_Fr wr h h1) : ca_Q h0 a none h1 := by
  have g3 : ab_Fr [(9857, 9858), (9859, 9861)] h h1 := g3.wide (fun c hc => ab_swr_ok hw hc)
  have e8 : mi_f h1 9858 = mi_f h 9858 := me_f (c := 9858) g3 hP.2.1 rfl rfl
  refine ⟨rfl, g1, hP.2.2.1.trans (g3.wide (fun c hc => ab_swr_ok (by decide) hc)), 6, 0, 0, ?_, g2, fun _ c => absurd rfl c⟩
  rw [e8]
  exact ht 0 0
theorem me_tword (hP : ca_P h0 h a) (hc : tx_low (mi_a h0 53 (mi_f h 9858).toNat)) : me_E (d + 8) 24 0 [some (.inr (.inr 77))] [] h (ca_Q h0 a) := by
  obtain ⟨en, ea⟩ := ca_e hP
  obtain ⟨hS0, hS, hF, hx, hp, hpn, h60⟩ := hP
  have bn := me_fb (c := 6657) hS0 rfl
  have b8 := me_fb (c := 9858) hS rfl
  refine mt_twA hS (fun h1 g1 g2 => ?_)
  have e := me_nil g2
  subst e
  refine ⟨_, me_cletters (d := d + 6) hS b8.1 (by omega), fun w h2 ow hq => ?_⟩
  obtain ⟨rfl, e, rfl, he⟩ := hq
  rw [en, ea] at he
  have e1 := he.1
  have e2 := tx_end_n he (by omega)
  refine mt_twB (zz := e) hS ⟨by omega, by omega⟩ ⟨⟨by omega, by omega⟩, fun h1 g1 g2 g3 => ?_⟩
  have n8 : mi_f h1 9858 = mi_f h2 9858 := me_f (c := 9858) g3 hS rfl rfl
  have n57 : mi_f h1 6657 = mi_f h0 6657 := (me_f (c := 6657) g3 hS rfl rfl).trans en
  have n53 : mi_a h1 53 = mi_a h0 53 := (funext (fun i => me_a (k := 53) g3 hS rfl rfl)).trans ea
  have n60 : mi_f h1 9860 = 0 := (me_f (c := 9860) g3 hS rfl rfl).trans h60
  have F1 : ab_Fr ca_W h0 h1 := hF.trans (g3.wide (fun c hc => ab_swr_ok (by decide) hc))
  have he1 : tx_end tx_low (mi_f h1 6657) (mi_a h1 53) (mi_f h2 9858) e := by rw [n57, n53]; exact he
  generalize hV : (if 6 < e - mi_f h2 9858 then (-1 : Int) else tx_code (mi_a h0 53) (mi_f h2 9858) (e - mi_f h2 9858).toNat) = V
  have vd : (6 < e - mi_f h2 9858 ∧ V = -1) ∨ (e - mi_f h2 9858 ≤ 6 ∧ V = tx_code (mi_a h0 53) (mi_f h2 9858) (e - mi_f h2 9858).toNat) := by
    rw [← hV]
    split
    · exact Or.inl ⟨by assumption, rfl⟩
    · exact Or.inr ⟨by omega, rfl⟩
  have wd : ∀ {ws : List Int} {κ : Int}, κ ≠ -1 → ws.length ≤ 6 → ws.all (fun z => decide (97 ≤ z ∧ z ≤ 122)) = true → tx_code (fun i => ws.getD i 0) 0 ws.length = κ → ((e - mi_f h2 9858 = (ws.length : Int) ∧ wd_m h1 (mi_f h2 9858) ws) ↔ V = κ) := fun {ws κ} k1 k2 k3 k4 => by
    rw [wd_iff b8.1 he1 k2 k3 k4, n53]
    constructor
    · rintro ⟨x1, x2⟩
      rcases vd with ⟨y1, y2⟩ | ⟨y1, y2⟩
      · omega
      · rw [y2, x2]
    · intro x
      rcases vd with ⟨y1, y2⟩ | ⟨y1, y2⟩
      · exact absurd (x.symm.trans y2) k1
      · exact ⟨y1, y2.symm.trans x⟩
  have fin : ∀ {s : Int} {h4 : sm_H}, so_c V = s → ab_Sh sx_sk h4 → mi_f h4 9859 = s → ab_Fr [(9859, 9860)] h1 h4 → ca_Q h0 a none h4 := fun {s h4} es r1 r2 r3 => by
    have m8 : mi_f h4 9858 = mi_f h2 9858 := (me_f (c := 9858) r3 g1 rfl rfl).trans n8
    have m7 : mi_f h4 9857 = e := (me_f (c := 9857) r3 g1 rfl rfl).trans g2
    have m0 : mi_f h4 9860 = 0 := (me_f (c := 9860) r3 g1 rfl rfl).trans n60
    refine ⟨rfl, r1, F1.trans (r3.wide (fun c hc => ab_swr_ok (by decide) hc)), 1, V, e, ?_, ?_, fun _ _ _ => ⟨m0, m7⟩⟩
    · rw [m8]
      exact ⟨hp, Or.inr ⟨hpn, Or.inl ⟨hc, rfl, he, vd⟩⟩⟩
    · rw [r2, ← es]
      rfl

  have w1 := wd (ws := ws_1) (κ := 609302190) (by decide) (by decide) (by decide) (by decide)
  have w2 := wd (ws := ws_2) (κ := 177198) (by decide) (by decide) (by decide) (by decide)
  have w3 := wd (ws := ws_3) (κ := 26886565) (by decide) (by decide) (by decide) (by decide)
  have w4 := wd (ws := ws_4) (κ := 11994498) (by decide) (by decide) (by decide) (by decide)
  have w5 := wd (ws := ws_5) (κ := 178476) (by decide) (by decide) (by decide) (by decide)
  have w6 := wd (ws := ws_6) (κ := 609752228) (by decide) (by decide) (by decide) (by decide)
  have w7 := wd (ws := ws_7) (κ := 363554) (by decide) (by decide) (by decide) (by decide)
  refine ⟨_, me_has_1 (d := d + 1) g1 b8.1 (by omega) (by omega) (by omega), fun w h3 ow hq => ?_⟩
  obtain ⟨rfl, z, rfl, oz, hz⟩ := hq
  refine mt_tw1 (zz := z) g1 ⟨by omega, by omega⟩ ?_ ?_
  rotate_left
  · intro c h4 r1 r2 r3
    exact fin (s := 1) (by unfold so_c; rw [if_pos (w1.mp (hz.mp (by omega)))]) r1 r2 r3
  intro c h4 r1 r2
  have x := me_nil r2
  subst x
  have n1 : V ≠ 609302190 := fun y => by have := hz.mpr (w1.mpr y); omega
  rw [n8, g2]
  refine ⟨_, me_has_2 (d := d + 1) g1 b8.1 (by omega) (by omega) (by omega), fun w h5 ow hq => ?_⟩
  clear hz oz c
  obtain ⟨rfl, z, rfl, oz, hz⟩ := hq
  refine mt_tw2 (zz := z) g1 ⟨by omega, by omega⟩ ?_ ?_
  rotate_left
  · intro c h4 r1 r2 r3
    exact fin (s := 2) (by unfold so_c; rw [if_neg n1, if_pos (w2.mp (hz.mp (by omega)))]) r1 r2 r3
  intro c h4 r1 r2
  have x := me_nil r2
  subst x
  have n2 : V ≠ 177198 := fun y => by have := hz.mpr (w2.mpr y); omega
  rw [n8, g2]
  refine ⟨_, me_has_3 (d := d + 1) g1 b8.1 (by omega) (by omega) (by omega), fun w h5 ow hq => ?_⟩
  clear hz oz c
  obtain ⟨rfl, z, rfl, oz, hz⟩ := hq
  refine mt_tw3 (zz := z) g1 ⟨by omega, by omega⟩ ?_ ?_
  rotate_left
  · intro c h4 r1 r2 r3
    exact fin (s := 3) (by unfold so_c; rw [if_neg n1, if_neg n2, if_pos (w3.mp (hz.mp (by omega)))]) r1 r2 r3
  intro c h4 r1 r2
  have x := me_nil r2
  subst x
  have n3 : V ≠ 26886565 := fun y => by have := hz.mpr (w3.mpr y); omega
  rw [n8, g2]
  refine ⟨_, me_has_4 (d := d + 1) g1 b8.1 (by omega) (by omega) (by omega), fun w h5 ow hq => ?_⟩
  clear hz oz c
  obtain ⟨rfl, z, rfl, oz, hz⟩ := hq
  refine mt_tw4 (zz := z) g1 ⟨by omega, by omega⟩ ?_ ?_
  rotate_left
  · intro c h4 r1 r2 r3
    exact fin (s := 4) (by unfold so_c; rw [if_neg n1, if_neg n2, if_neg n3, if_pos (w4.mp (hz.mp (by omega)))]) r1 r2 r3
  intro c h4 r1 r2
  have x := me_nil r2
  subst x
  have n4 : V ≠ 11994498 := fun y => by have := hz.mpr (w4.mpr y); omega
  rw [n8, g2]
  refine ⟨_, me_has_5 (d := d + 1) g1 b8.1 (by omega) (by omega) (by omega), fun w h5 ow hq => ?_⟩
  clear hz oz c
  obtain ⟨rfl, z, rfl, oz, hz⟩ := hq
  refine mt_tw5 (zz := z) g1 ⟨by omega, by omega⟩ ?_ ?_
  rotate_left
  · intro c h4 r1 r2 r3
    exact fin (s := 5) (by unfold so_c; rw [if_neg n1, if_neg n2, if_neg n3, if_neg n4, if_pos (w5.mp (hz.mp (by omega)))]) r1 r2 r3
  intro c h4 r1 r2
  have x := me_nil r2
  subst x
  have n5 : V ≠ 178476 := fun y => by have := hz.mpr (w5.mpr y); omega
  rw [n8, g2]
  refine ⟨_, me_has_6 (d := d + 1) g1 b8.1 (by omega) (by omega) (by omega), fun w h5 ow hq => ?_⟩
  clear hz oz c
  obtain ⟨rfl, z, rfl, oz, hz⟩ := hq
  refine mt_tw6 (zz := z) g1 ⟨by omega, by omega⟩ ?_ ?_
  rotate_left
  · intro c h4 r1 r2 r3
    exact fin (s := 6) (by unfold so_c; rw [if_neg n1, if_neg n2, if_neg n3, if_neg n4, if_neg n5, if_pos (w6.mp (hz.mp (by omega)))]) r1 r2 r3
  intro c h4 r1 r2
  have x := me_nil r2
  subst x
  have n6 : V ≠ 609752228 := fun y => by have := hz.mpr (w6.mpr y); omega
  rw [n8, g2]
  refine ⟨_, me_has_7 (d := d + 1) g1 b8.1 (by omega) (by omega) (by omega), fun w h5 ow hq => ?_⟩
  clear hz oz c
  obtain ⟨rfl, z, rfl, oz, hz⟩ := hq
  refine mt_tw7 (zz := z) g1 ⟨by omega, by omega⟩ ?_ ?_
  · intro c h4 r1 r2 r3
    exact fin (s := 12) (by unfold so_c; rw [if_neg n1, if_neg n2, if_neg n3, if_neg n4, if_neg n5, if_neg n6, if_neg (fun y => by have := hz.mpr (w7.mpr y); omega)]) r1 r2 r3
  · intro c h4 r1 r2 r3
    exact fin (s := 7) (by unfold so_c; rw [if_neg n1, if_neg n2, if_neg n3, if_neg n4, if_neg n5, if_neg n6, if_pos (w7.mp (hz.mp (by omega)))]) r1 r2 r3
theorem me_tkeyword (hP : ca_P h0 h a) (hc : mi_a h0 53 (mi_f h 9858).toNat = 34) : me_E (d + 8) 33 0 [some (.inr (.inr 77)), none, none] [] h (ca_Q h0 a) := by
  obtain ⟨en, ea⟩ := ca_e hP
  obtain ⟨hS0, hS, hF, hx, hp, hpn, h60⟩ := id hP
  have bn := me_fb (c := 6657) hS0 rfl
  have b8 := me_fb (c := 9858) hS rfl
  refine mt_tkA hS (fun b => ⟨⟨by omega, by omega⟩, fun h1 g1 g2 => ?_⟩)
  have e := me_nil g2
  subst e
  refine ⟨_, me_cletters (d := d + 6) hS (by omega) (by omega), fun w h2 ow hq => ?_⟩
  obtain ⟨rfl, q, rfl, hq⟩ := hq
  rw [en, ea] at hq
  have q1 := hq.1
  have q2 := tx_end_n hq (by omega)
  have no : ¬ (mi_f h2 9858 + 1 < q ∧ q - (mi_f h2 9858 + 1) < 6 ∧ q < mi_f h0 6657 ∧ mi_a h0 53 q.toNat = 34) → ∀ v e, tk_T (mi_f h0 6657) (mi_a h0 53) a 6 v (mi_f h2 9858) e := fun hn v e => ⟨hp, Or.inr ⟨hpn, Or.inr (Or.inr (Or.inr (Or.inl ⟨hc, q, hq, Or.inr ⟨hn, rfl⟩⟩)))⟩⟩
  have oq : mi_in q := ⟨by omega, by omega⟩
  refine mt_tkB (zz := q) hS oq ?_ ?_ ?_
  · intro b c
    exact ⟨⟨⟨by omega, by omega⟩, ⟨by omega, by omega⟩⟩, fun h3 r1 r2 r3 => ca_no hP (no (fun x => by omega)) (by decide) r1 r2 r3⟩
  · intro b c c2
    exact ⟨⟨⟨by omega, by omega⟩, ⟨by omega, by omega⟩⟩, fun h3 r1 r2 r3 => ca_no hP (no (fun x => by omega)) (by decide) r1 r2 r3⟩
  · intro b c c2
    refine ⟨⟨⟨by omega, by omega⟩, ⟨by omega, by omega⟩⟩, fun h3 r1 r2 => ?_⟩
    have e := me_nil r2
    subst e
    refine ⟨_, me_cat (d := d + 7) hS oq, fun w h4 ow hq2 => ?_⟩
    obtain ⟨rfl, rfl⟩ := hq2
    have bx := cx_in hS q
    refine mt_tkC (zz := cx_at h4 q) hS oq ⟨by omega, by omega⟩ ⟨by omega, by omega⟩ ?_ ?_
    · intro b2 c3
      have qn : q < mi_f h0 6657 ∧ mi_a h0 53 q.toNat = 34 := by
        unfold cx_at at c3
        rw [en, ea] at c3
        by_cases y : 0 ≤ q ∧ q < mi_f h0 6657
        · rw [if_pos y] at c3
          exact ⟨y.2, c3⟩
        · rw [if_neg y] at c3
          omega
      refine ⟨⟨by omega, by omega⟩, fun h5 r1 r2 r3 => ?_⟩
      have n57 : mi_f h5 6657 = mi_f h0 6657 := (me_f (c := 6657) r3 hS rfl rfl).trans en
      have n53 : mi_a h5 53 = mi_a h0 53 := (funext (fun i => me_a (k := 53) r3 hS rfl rfl)).trans ea
      refine ⟨_, me_ccode (d := d + 6) (zf := mi_f h4 9858 + 1) (zt := q) r1 (by omega) (by omega) (by omega) (by omega) (fun j j1 j2 => by rw [n53]; exact (hq.2.1 j j1 j2).2), fun w h6 ow hq2 => ?_⟩
      obtain ⟨rfl, rfl⟩ := hq2
      have cb := tx_code_b (c := mi_a h0 53) (q - (mi_f h4 9858 + 1)).toNat (mi_f h4 9858 + 1) (fun j j1 j2 => (hq.2.1 j j1 (by omega)).2)
      have p5 : (32 : Int) ^ (q - (mi_f h4 9858 + 1)).toNat ≤ 32 ^ 5 := by
        have : (32 : Nat) ^ (q - (mi_f h4 9858 + 1)).toNat ≤ 32 ^ 5 := Nat.pow_le_pow_right (by decide) (by omega)
        exact_mod_cast this
      have e32 : (32 : Int) ^ 5 = 33554432 := by decide
      rw [n53]
      refine mt_tkD (zz := tx_code (mi_a h0 53) (mi_f h4 9858 + 1) (q - (mi_f h4 9858 + 1)).toNat) r1 oq ⟨by omega, by omega⟩ ⟨by omega, by omega⟩ ⟨⟨⟨by omega, by omega⟩, ⟨by omega, by omega⟩⟩, fun h7 u1 u2 u3 u4 => ?_⟩
      have m8 : mi_f h7 9858 = mi_f h4 9858 := (me_f (c := 9858) u4 r1 rfl rfl).trans (me_f (c := 9858) r3 hS rfl rfl)
      have m9 : mi_f h7 9859 = 8 := (me_f (c := 9859) u4 r1 rfl rfl).trans r2
      refine ⟨rfl, u1, (hF.trans (r3.wide (fun c hc => ab_swr_ok (by decide) hc))).trans (u4.wide (fun c hc => ab_swr_ok (by decide) hc)), 3, tx_code (mi_a h0 53) (mi_f h4 9858 + 1) (q - (mi_f h4 9858 + 1)).toNat, q + 1, ?_, m9, fun _ _ _ => ⟨u3, u2⟩⟩
      rw [m8]
      exact ⟨hp, Or.inr ⟨hpn, Or.inr (Or.inr (Or.inr (Or.inl ⟨hc, q, hq, Or.inl ⟨by omega, by omega, qn.1, qn.2, rfl, rfl, rfl⟩⟩)))⟩⟩
    · intro c3 h5 r1 r2 r3
      refine ca_no hP (no (fun x => c3 ?_)) (by decide) r1 r2 r3
      unfold cx_at
      rw [en, ea, if_pos ⟨by omega, x.2.2.1⟩]
      exact x.2.2.2
theorem me_tsign (hP : ca_P h0 h a) (hc : mi_a h0 53 (mi_f h 9858).toNat = 39) : me_E (d + 8) 35 0 [some (.inr (.inr 77)), none] [] h (ca_Q h0 a) := by
  obtain ⟨en, ea⟩ := ca_e hP
  obtain ⟨hS0, hS, hF, hx, hp, hpn, h60⟩ := id hP
  have bn := me_fb (c := 6657) hS0 rfl
  have b8 := me_fb (c := 9858) hS rfl
  refine mt_tsA hS (fun b => ⟨⟨by omega, by omega⟩, fun h1 g1 g2 => ?_⟩)
  have e := me_nil g2
  subst e
  refine ⟨_, me_cat (d := d + 7) hS ⟨by omega, by omega⟩, fun w h2 ow hq => ?_⟩
  obtain ⟨rfl, rfl⟩ := hq
  have bx := cx_in hS (mi_f h2 9858 + 1)
  have ex : (mi_f h2 9858 + 1 < mi_f h0 6657 ∧ cx_at h2 (mi_f h2 9858 + 1) = mi_a h0 53 (mi_f h2 9858 + 1).toNat) ∨ (¬ mi_f h2 9858 + 1 < mi_f h0 6657 ∧ cx_at h2 (mi_f h2 9858 + 1) = 32) := by
    unfold cx_at
    rw [en, ea]
    by_cases y : mi_f h2 9858 + 1 < mi_f h0 6657
    · rw [if_pos ⟨by omega, y⟩]
      exact Or.inl ⟨y, rfl⟩
    · rw [if_neg (fun z => y z.2)]
      exact Or.inr ⟨y, rfl⟩
  generalize cx_at h2 (mi_f h2 9858 + 1) = s at bx ex ⊢
  have no : ¬ tx_sg s → ∀ v e, tk_T (mi_f h0 6657) (mi_a h0 53) a 6 v (mi_f h2 9858) e := fun hn v e => ⟨hp, Or.inr ⟨hpn, Or.inr (Or.inr (Or.inr (Or.inr (Or.inl ⟨hc, Or.inr ⟨fun x => ?_, rfl⟩⟩))))⟩⟩
  rotate_left
  · rcases ex with ⟨y1, y2⟩ | ⟨y1, y2⟩
    · rw [y2] at hn
      exact hn x.2
    · exact y1 x.1
  have os : mi_in s := ⟨by omega, by omega⟩
  unfold tx_sg tx_low tx_dig tx_cap at no
  refine mt_tsB (zz := s) hS os ?_ ?_ ?_ ?_ ?_
  rotate_left
  · intro c1 c2 c3 h3 r1 r2
    have e := me_nil r2
    subst e
    have y : mi_f h3 9858 + 1 < mi_f h0 6657 ∧ s = mi_a h0 53 (mi_f h3 9858 + 1).toNat := by
      rcases ex with x | x
      · exact x
      · exact absurd x.2 c1
    have yx := hx (mi_f h3 9858 + 1).toNat (by omega)
    rw [← y.2] at yx
    have yes : tx_sg s → ∀ h4, ab_Sh sx_sk h4 → mi_f h4 9857 = mi_f h3 9858 + 2 → mi_f h4 9859 = 8 → mi_f h4 9860 = -s → ab_Fr [(9857, 9858), (9859, 9861)] h3 h4 → ca_Q h0 a none h4 := fun hs h4 u1 u2 u3 u4 u5 => by
      have m8 : mi_f h4 9858 = mi_f h3 9858 := me_f (c := 9858) u5 hS rfl rfl
      refine ⟨rfl, u1, hF.trans (u5.wide (fun c hc => ab_swr_ok (by decide) hc)), 4, s, mi_f h3 9858 + 2, ?_, u3, fun _ _ _ => ⟨u4, u2⟩⟩
      rw [m8]
      exact ⟨hp, Or.inr ⟨hpn, Or.inr (Or.inr (Or.inr (Or.inr (Or.inl ⟨hc, Or.inl ⟨y.1, by rw [← y.2]; exact hs, rfl, y.2, rfl⟩⟩))))⟩⟩
    unfold tx_sg tx_low tx_dig tx_cap at yes
    refine mt_tsC (zc := s) hS os ?_ ?_ ?_ ?_ ?_ ?_ ?_
    · intro b c4 c5
      exact ⟨⟨⟨by omega, by omega⟩, ⟨by omega, by omega⟩, ⟨by omega, by omega⟩⟩, yes (by omega)⟩
    · intro b c4 c5 c6
      exact ⟨⟨⟨by omega, by omega⟩, ⟨by omega, by omega⟩, ⟨by omega, by omega⟩⟩, yes (by omega)⟩
    · intro c4 c5 c6 h4 r1 r2 r3
      exact ca_no hP (no (by omega)) (by decide) r1 r2 r3
    · intro b c4 c5 c6; exfalso; omega
    · intro b c4 c5 c6 c7
      exact ⟨⟨⟨by omega, by omega⟩, ⟨by omega, by omega⟩, ⟨by omega, by omega⟩⟩, yes (by omega)⟩
    · intro c4 c5 c6 c7; exfalso; omega
    · intro c4 c5 h4 r1 r2 r3
      exact ca_no hP (no (by omega)) (by decide) r1 r2 r3
  · intro c1 c2 c3 c3b h3 r1 r2
    have e := me_nil r2
    subst e
    have y : mi_f h3 9858 + 1 < mi_f h0 6657 ∧ s = mi_a h0 53 (mi_f h3 9858 + 1).toNat := by
      rcases ex with x | x
      · exact x
      · exact absurd x.2 c1
    have yx := hx (mi_f h3 9858 + 1).toNat (by omega)
    rw [← y.2] at yx
    have yes : tx_sg s → ∀ h4, ab_Sh sx_sk h4 → mi_f h4 9857 = mi_f h3 9858 + 2 → mi_f h4 9859 = 8 → mi_f h4 9860 = -s → ab_Fr [(9857, 9858), (9859, 9861)] h3 h4 → ca_Q h0 a none h4 := fun hs h4 u1 u2 u3 u4 u5 => by
      have m8 : mi_f h4 9858 = mi_f h3 9858 := me_f (c := 9858) u5 hS rfl rfl
      refine ⟨rfl, u1, hF.trans (u5.wide (fun c hc => ab_swr_ok (by decide) hc)), 4, s, mi_f h3 9858 + 2, ?_, u3, fun _ _ _ => ⟨u4, u2⟩⟩
      rw [m8]
      exact ⟨hp, Or.inr ⟨hpn, Or.inr (Or.inr (Or.inr (Or.inr (Or.inl ⟨hc, Or.inl ⟨y.1, by rw [← y.2]; exact hs, rfl, y.2, rfl⟩⟩))))⟩⟩
    unfold tx_sg tx_low tx_dig tx_cap at yes
    refine mt_tsC (zc := s) hS os ?_ ?_ ?_ ?_ ?_ ?_ ?_
    · intro b c4 c5; exfalso; omega
    · intro b c4 c5 c6; exfalso; omega
    · intro c4; exfalso; omega
    · intro b c4 c5 c6; exfalso; omega
    · intro b c4 c5 c6 c7
      exact ⟨⟨⟨by omega, by omega⟩, ⟨by omega, by omega⟩, ⟨by omega, by omega⟩⟩, yes (by omega)⟩
    · intro c4 c5 c6 c7; exfalso; omega
    · intro c4 c5; exfalso; omega
  · intro c1 c2 c3 c4 h3 r1 r2 r3
    exact ca_no hP (no (by omega)) (by decide) r1 r2 r3
  · intro c1 c2 h3 r1 r2 r3
    exact ca_no hP (no (by omega)) (by decide) r1 r2 r3
  · intro c1 h3 r1 r2 r3
    exact ca_no hP (no (by omega)) (by decide) r1 r2 r3
theorem me_tcharacter {zc : Int} (hP : ca_P h0 h a) (hc : zc = mi_a h0 53 (mi_f h 9858).toNat) (n1 : ¬ tx_low zc) (n4 : zc ≠ 34) (n5 : zc ≠ 39) : me_E (d + 9) 39 0 [some (.inr (.inr 77)), some (.inl zc)] [] h (ca_Q h0 a) := by
  obtain ⟨en, ea⟩ := ca_e hP
  obtain ⟨hS0, hS, hF, hx, hp, hpn, h60⟩ := id hP
  have bn := me_fb (c := 6657) hS0 rfl
  have b8 := me_fb (c := 9858) hS rfl
  have yx := hx (mi_f h 9858).toNat (by omega)
  rw [← hc] at yx
  have oc : mi_in zc := ⟨by omega, by omega⟩
  have fin : ∀ {t v : Int} {h1 : sm_H}, tk_T (mi_f h0 6657) (mi_a h0 53) a t v (mi_f h 9858) (mi_f h 9858 + 1) → ab_Sh sx_sk h1 → mi_f h1 9857 = mi_f h 9858 + 1 → mi_f h1 9859 = cs_t t v → mi_f h1 9860 = cc_t t v → ab_Fr [(9857, 9858), (9859, 9861)] h h1 → ca_Q h0 a none h1 := fun {t v h1} ht u1 u2 u3 u4 u5 => by
    have m8 : mi_f h1 9858 = mi_f h 9858 := me_f (c := 9858) u5 hS rfl rfl
    refine ⟨rfl, u1, hF.trans (u5.wide (fun c hc => ab_swr_ok (by decide) hc)), t, v, mi_f h 9858 + 1, ?_, u3, fun _ _ _ => ⟨u4, u2⟩⟩
    rw [m8]
    exact ht
  have own : tx_own zc → tk_T (mi_f h0 6657) (mi_a h0 53) a zc 0 (mi_f h 9858) (mi_f h 9858 + 1) := fun ho => ⟨hp, Or.inr ⟨hpn, Or.inr (Or.inr (Or.inr (Or.inr (Or.inr (Or.inl ⟨by rw [← hc]; exact ho, hc, rfl, rfl⟩)))))⟩⟩
  have call : ¬ tx_cap zc → ¬ tx_dig zc → zc ≠ 40 → (∀ h1, ab_Sh sx_sk h1 → mi_f h1 9857 = mi_f h 9858 + 1 → ab_Fr [(9857, 9858)] h h1 → ∃ Q1, me_E (d + 8) 40 0 (mi_entry 2 [.inr (.inr 8), .inl zc]) [] h1 Q1 ∧ ∀ w h2, (∀ x, w = some x → mi_ok x) → Q1 w h2 → me_E (d + 9) 39 76 [some (.inr (.inr 77)), some (.inl zc)] (mi_back w []) h2 (ca_Q h0 a)) := fun n2 n3 n40 h1 u1 u2 u3 => by
    have m60 : mi_f h1 9860 = 0 := (me_f (c := 9860) u3 hS rfl rfl).trans h60
    refine ⟨_, me_idx (d := d) u1 (by omega) (by omega), fun w h2 ow hq => ?_⟩
    obtain ⟨rfl, z, rfl, oz, hz⟩ := hq
    refine mt_tcB (zz := z) u1 oc oz ?_ ?_
    · intro c h3 r1 r2 r3
      refine ca_no hP (fun v e => ⟨hp, Or.inr ⟨hpn, Or.inr (Or.inr (Or.inr (Or.inr (Or.inr (Or.inr ⟨?_, ?_, ?_, ?_, ?_, ?_, rfl⟩)))))⟩⟩) (wr := [(9857, 9858), (9859, 9860)]) (by decide) r1 r2 ((u3.wide (fun c hc => ab_swr_ok (by decide) hc)).trans (r3.wide (fun c hc => ab_swr_ok (by decide) hc)))
      · rw [← hc]; exact n1
      · rw [← hc]; exact n2
      · rw [← hc]; exact n3
      · rw [← hc]; exact n4
      · rw [← hc]; exact n5
      · rw [← hc]
        intro ho
        have := hz.mpr ⟨ho, n40⟩
        omega
    · intro c h3 r1 r2 r3
      have ho := (hz.mp c).1
      have m7 : mi_f h3 9857 = mi_f h 9858 + 1 := (me_f (c := 9857) r3 u1 rfl rfl).trans u2
      have m0 : mi_f h3 9860 = 0 := (me_f (c := 9860) r3 u1 rfl rfl).trans m60
      refine fin (own ho) r1 m7 ?_ ?_ ((u3.wide (fun c hc => ab_swr_ok (by decide) hc)).trans (r3.wide (fun c hc => ab_swr_ok (by decide) hc)))
      · rw [r2]
        unfold cs_t
        unfold tx_own at ho
        rw [if_neg (by omega), if_neg (by omega), if_neg (by omega), if_neg (by omega), if_neg (by omega), if_neg (by omega), if_neg n40]
      · rw [m0]
        unfold cc_t
        unfold tx_own at ho
        rw [if_neg (by omega), if_neg (by omega), if_neg (by omega), if_neg (by omega)]
  refine mt_tcA hS oc ?_ ?_ ?_ ?_ ?_ ?_ ?_ ?_ ?_ ?_ ?_
  · intro b c1 c2 c3
    exact ⟨⟨⟨by omega, by omega⟩, ⟨by omega, by omega⟩⟩, call (fun x => by have := x.1; omega) (fun x => by have := x.1; omega) c3⟩
  · intro b c1 c2 c3
    refine ⟨⟨⟨by omega, by omega⟩, ⟨by omega, by omega⟩⟩, fun h1 u1 u2 u3 u4 => fin (own (by unfold tx_own; omega)) u1 u2 ?_ ?_ (u4.wide (fun c hc => ab_swr_ok (by decide) hc))⟩
    · rw [u3, c3]; rfl
    · rw [me_f (c := 9860) u4 hS rfl rfl, h60, c3]; rfl
  · intro b c1 c2 c3 c4
    exact ⟨⟨⟨by omega, by omega⟩, ⟨by omega, by omega⟩⟩, call (fun x => by have := x.1; omega) (fun x => by have := x.2; omega) c4⟩
  · intro b c1 c2 c3 c4; exfalso; omega
  · intro b c1 c2 c3
    refine ⟨⟨⟨by omega, by omega⟩, ⟨by omega, by omega⟩, ⟨by omega, by omega⟩⟩, fun h1 u1 u2 u3 u4 u5 => fin (t := 5) (v := zc - 48) ⟨hp, Or.inr ⟨hpn, Or.inr (Or.inr (Or.inl ⟨by rw [← hc]; exact ⟨c2, c3⟩, rfl, by rw [hc], rfl⟩))⟩⟩ u1 u2 u3 u4 u5⟩
  · intro b c1 c2 c3; exfalso; omega
  · intro b c1 c2 c3; exfalso; omega
  · intro b c1 c2 c3 c4 c5
    exact ⟨⟨⟨by omega, by omega⟩, ⟨by omega, by omega⟩⟩, call (fun x => by have := x.2; omega) (fun x => by have := x.2; omega) c5⟩
  · intro b c1 c2 c3 c4 c5; exfalso; omega
  · intro b c1 c2 c3 c4; exfalso; omega
  · intro b c1 c2
    refine ⟨⟨⟨by omega, by omega⟩, ⟨by omega, by omega⟩⟩, fun h1 u1 u2 u3 u4 u5 => fin (t := 2) (v := zc - 65) ⟨hp, Or.inr ⟨hpn, Or.inr (Or.inl ⟨by rw [← hc]; exact ⟨c1, c2⟩, rfl, by rw [hc], rfl⟩)⟩⟩ u1 u2 u3 ?_ u5⟩
    rw [u4]
    show zc = zc - 65 + 65
    omega
/-- advance tells the token at the place where it stands -/
theorem me_advance (hS : ab_Sh sx_sk h0) (hx : cx_ok h0) (ha : mi_f h0 9857 ≤ mi_f h0 6657) : me_E (d + 10) 18 0 [some (.inr (.inr 77)), none] [] h0 (ca_Q h0 (mi_f h0 9857)) := by
  have bn := me_fb (c := 6657) hS rfl
  have b7 := me_fb (c := 9857) hS rfl
  refine mt_avA hS (fun h1 g1 g2 => ?_)
  have e := me_nil g2
  subst e
  refine ⟨_, me_cblanks (d := d + 8) hS b7.1 (by omega), fun w h2 ow hq => ?_⟩
  obtain ⟨rfl, p, rfl, hp⟩ := hq
  have p1 := hp.1
  have p2 := tx_end_n hp ha
  have op : mi_in p := ⟨by omega, by omega⟩
  refine mt_avB (zz := p) hS op ⟨⟨by omega, by omega⟩, fun h1 g1 g2 g3 g4 g5 => ?_⟩
  have n57 : mi_f h1 6657 = mi_f h2 6657 := me_f (c := 6657) g5 hS rfl rfl
  have n53 : mi_a h1 53 = mi_a h2 53 := funext (fun i => me_a (k := 53) g5 hS rfl rfl)
  have F1 : ab_Fr ca_W h2 h1 := g5.wide (fun c hc => ab_swr_ok (by decide) hc)
  refine ⟨_, me_cat (d := d + 9) g1 op, fun w h3 ow hq => ?_⟩
  obtain ⟨rfl, rfl⟩ := hq
  have bx := cx_in g1 p
  have oz : mi_in (cx_at h3 p) := ⟨by omega, by omega⟩
  have hP : p < mi_f h2 6657 → ca_P h2 h3 (mi_f h2 9857) ∧ cx_at h3 p = mi_a h2 53 (mi_f h3 9858).toNat := fun hpn => by
    refine ⟨⟨hS, g1, F1, hx, by rw [g3]; exact hp, by rw [g3]; exact hpn, g4⟩, ?_⟩
    unfold cx_at
    rw [n57, n53, g3, if_pos ⟨by omega, hpn⟩]
  have ret : ∀ {pc : Nat} {w : Option mi_V} {h4 : sm_H}, (∀ {Q : Option mi_V → sm_H → Prop}, ab_Sh sx_sk h4 → (∀ h1, ab_Sh sx_sk h1 → ab_Fr [] h4 h1 → Q none h1) → me_E (d + 10) 18 pc [some (.inr (.inr 77)), some (.inl (cx_at h3 p))] [] h4 Q) → ca_Q h2 (mi_f h2 9857) w h4 → me_E (d + 10) 18 pc [some (.inr (.inr 77)), some (.inl (cx_at h3 p))] (mi_back w []) h4 (ca_Q h2 (mi_f h2 9857)) := fun {pc w h4} k hq => by
    obtain ⟨rfl, q1, q2, q3⟩ := hq
    refine k q1 (fun h5 r1 r2 => ?_)
    have e := me_nil r2
    subst e
    exact ⟨rfl, q1, q2, q3⟩
  refine mt_avC g1 oz ?_ ?_ ?_ ?_ ?_ ?_ ?_ ?_
  · intro b b2 c1 c2 c3 c4 h4 r1 r2
    have e := me_nil r2
    subst e
    obtain ⟨P, ec⟩ := hP (by omega)
    exact ⟨_, me_tcharacter (d := d) P ec (fun x => by have := x.1; omega) c3 c4, fun w h5 ow hq => ret (fun u1 u2 => mt_av107 u1 oz u2) hq⟩
  · intro b b2 c1 c2 c3 c4 h4 r1 r2
    have e := me_nil r2
    subst e
    obtain ⟨P, ec⟩ := hP (by omega)
    exact ⟨_, me_tsign (d := d + 1) P (by rw [← ec]; exact c4), fun w h5 ow hq => ret (fun u1 u2 => mt_av99 u1 oz u2) hq⟩
  · intro b b2 c1 c2 c3 h4 r1 r2
    have e := me_nil r2
    subst e
    obtain ⟨P, ec⟩ := hP (by omega)
    exact ⟨_, me_tkeyword (d := d + 1) P (by rw [← ec]; exact c3), fun w h5 ow hq => ret (fun u1 u2 => mt_av86 u1 oz u2) hq⟩
  · intro b b2 c1 c2 c3 c4 c5 h4 r1 r2
    have e := me_nil r2
    subst e
    obtain ⟨P, ec⟩ := hP (by omega)
    exact ⟨_, me_tcharacter (d := d) P ec (fun x => by have := x.2; omega) c4 c5, fun w h5 ow hq => ret (fun u1 u2 => mt_av107 u1 oz u2) hq⟩
  · intro b b2 c1 c2 c3 c4 c5; exfalso; omega
  · intro b b2 c1 c2 c3 c4; exfalso; omega
  · intro b b2 c1 c2 c3 h4 r1 r2
    have e := me_nil r2
    subst e
    obtain ⟨P, ec⟩ := hP (by omega)
    exact ⟨_, me_tword (d := d + 1) P (by rw [← ec]; exact ⟨c2, c3⟩), fun w h5 ow hq => ret (fun u1 u2 => mt_av73 u1 oz u2) hq⟩
  · intro b b2 c1 h4 r1 r2 r3
    have m8 : mi_f h4 9858 = p := (me_f (c := 9858) r3 g1 rfl rfl).trans g3
    refine ⟨rfl, r1, F1.trans (r3.wide (fun c hc => ab_swr_ok (by decide) hc)), 0, 0, 0, ?_, r2, fun c => absurd rfl c⟩
    rw [m8]
    exact ⟨hp, Or.inl ⟨by omega, rfl⟩⟩
end CTK
