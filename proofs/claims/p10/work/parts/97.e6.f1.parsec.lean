/-! parse of the class, exactly -/
section PCX
variable {h : sm_H}
def pcr_W : List (Nat × Nat) := [(12032, 12033), (12160, 12161), (12288, 12289), (12416, 12417), (13056, 13057), (13184, 13185), (13312, 13313), (13440, 13441), (13571, 13574), (13575, 13580)]
/-- what is asked of the rows, the sets, the tokens -/
def pc_H (h : sm_H) (g : wk_g) (E : pm_E) : Prop := ∃ (p : Int → Int) (N : Int) (f : Int → Int) (it : Int → Prop) (Y : wk_Y) (kw : Int → Bool) (pf pa : Int → Int → Bool), pq_tok E p N h ∧ (0 ≤ N ∧ N ≤ 160 ∧ E.1 N = 0) ∧ p 0 = 0 ∧ pq_V E N ∧ pm_Hs g Y E pf pa ∧ pq_H E h f it g Y kw h ∧ wk_Lrule Y (g 114 0) ∧ f (g 114 0) = 0
def pc_T (h : sm_H) (g : wk_g) (E : pm_E) (x : Nat) (h' : sm_H) : Prop := ∃ h1, h' = h1 ++ [sm_exc x] ∧ ab_Sh sx_sk h1 ∧ ab_Fr pq_W h h1 ∧ ((x = 14 ∧ mi_f h 6543 = 0) ∨ (x = 15 ∧ mi_f h 6543 ≠ 0 ∧ pm_NO g E (pc_0 g 0)))
def pc_Q (h : sm_H) (g : wk_g) (E : pm_E) (w : Option mi_V) (h' : sm_H) : Prop := ab_Sh sx_sk h' ∧ mi_f h 6543 ≠ 0 ∧ (∃ z, w = some (.inl z)) ∧ ((pm_NO g E (pc_0 g 0) ∧ ab_Fr pq_W h h') ∨ (ab_Fr pcr_W h h' ∧ ∃ s', pm_RO g E (pc_0 g 0) ([], s') ∧ pm_K E s' = 0 ∧ w = some (.inl ((gm_T s').length : Int)) ∧ (gm_T s').length ≤ 100 ∧ gc_S h' (gm_T s')))
theorem me_parsec {g : wk_g} {E : pm_E} (hS : ab_Sh sx_sk h) (hG : mi_f h 6543 ≠ 0 → pc_H h g E) : mg_E (pc_T h g E) 255 102 0 [some (.inr (.inr 51))] [] h (pc_Q h g E) := by
  refine mt_kqpA (d := 254) hS ?_ ?_
  · intro b c h1 g1 g2
    have e := me_nil g2
    subst e
    obtain ⟨p, N, f, it, Y, kw, pf, pa, k1, ⟨k2, k3, k4⟩, k5, k6, k7, k8, k9, k10⟩ := hG c
    refine ⟨_, me_pwalk (X := 0) k1 k2 k4 k3 k5 k6 k7 hS k8 k9.1 k9.2.1 k10, fun w h2 hw hq => ?_⟩
    obtain ⟨rfl, q1, q2, q3⟩ := hq
    refine mt_kqpB (d := 254) q1 ?_ ?_ ?_
    · intro b1 b2 c1 c2 h3 r1 r2
      have e := me_nil r2
      subst e
      rcases q3 with ⟨q3, -⟩ | ⟨-, -, s', q4, q5, q6, q7, q8, q9⟩
      · have := q3.2
        exfalso; omega
      obtain ⟨t1, t2⟩ := q6
      have q7 : ((gm_T s').length : Int) ≤ 100 := q7
      refine ⟨_, me_gtake (d := 252) q1 (by omega) (by omega), fun w h4 hw hq => ?_⟩
      obtain ⟨rfl, u1, u2, u3, u4⟩ := hq
      refine mt_kqpC (d := 254) u1 ?_
      intro h5 v1 v2
      have e := me_nil v2
      subst e
      refine ⟨u1, c, ⟨_, rfl⟩, Or.inr ⟨(q2.wide (fun c hc => ab_swr_ok (by decide) hc)).trans (u2.wide (fun c hc => ab_swr_ok (by decide) hc)), s', q4, q5, by rw [u3, t1], by omega, ⟨u3.trans t1, fun k hk => ?_⟩, q8, fun k hk => ?_⟩⟩
      · obtain ⟨l, q, hl⟩ := t2 k hk
        obtain ⟨x1, x2, -⟩ := u4 k (by omega)
        exact ⟨l, q, by rw [x1, x2]; exact hl⟩
      · have := q9 k hk
        rw [Nat.zero_add] at this
        rw [this, (u4 k (by omega)).2.2]
    · intro b1 b2 c1 c2
      refine ⟨by have := me_fb (c := 13579) q1 rfl; omega, fun h3 r1 r2 => ?_⟩
      have e := me_nil r2
      subst e
      rcases q3 with ⟨q3, q4⟩ | ⟨-, q4, -⟩
      · exact ⟨q1, c, ⟨_, rfl⟩, Or.inl ⟨q4, q2⟩⟩
      · exact absurd q4 c2
    · intro b1 c1 h3 r1 r2
      have e := me_nil r2
      subst e
      rcases q3 with ⟨q3, q4⟩ | ⟨q4, -⟩
      · exact mg_thr (M := (1, 1, sb_102)) (x := 15) rfl rfl rfl ⟨h3, rfl, q1, q2, Or.inr ⟨rfl, c, q4⟩⟩
      · exact absurd q4 c1
  · intro b c h1 g1 g2
    have e := me_nil g2
    subst e
    exact mg_thr (M := (1, 1, sb_102)) (x := 14) rfl rfl rfl ⟨h1, rfl, g1, ab_Fr.refl, Or.inl ⟨rfl, c⟩⟩
end PCX
/-! TOKENS of an input, purely: n characters c, m literals L -/
def tx_dec (c : Nat → Int) (k : Int) : Nat → Int
  | 0 => 0
  | m + 1 => 10 * tx_dec c k m + (c (k + m).toNat - 48)
theorem tx_dec_b {c : Nat → Int} {k : Int} : ∀ m : Nat, (∀ j, k ≤ j → j < k + m → tx_dig (c j.toNat)) → 0 ≤ tx_dec c k m ∧ tx_dec c k m < 10 ^ m := by
  intro m
  induction m with
  | zero => intro _; exact ⟨Int.le_refl _, show (0 : Int) < 10 ^ 0 by decide⟩
  | succ m ih =>
    intro h
    obtain ⟨i1, i2⟩ := ih (fun j j0 j1 => h j j0 (by omega))
    obtain ⟨x1, x2⟩ := h (k + m) (by omega) (by omega)
    have e : (10 : Int) ^ (m + 1) = 10 * 10 ^ m := by rw [Int.pow_succ, Int.mul_comm]
    show 0 ≤ 10 * tx_dec c k m + (c (k + m).toNat - 48) ∧ 10 * tx_dec c k m + (c (k + m).toNat - 48) < 10 ^ (m + 1)
    omega
/-- the first place of c, or -1 -/
def fx (m : Int) (L : Nat → Int) (c z : Int) : Prop := (0 ≤ z ∧ z < m ∧ L z.toNat = c ∧ ∀ j : Nat, (j : Int) < z → L j ≠ c) ∨ (z = -1 ∧ ∀ j : Nat, (j : Int) < m → L j ≠ c)
theorem fx_u {m : Int} {L : Nat → Int} {c z z' : Int} (h : fx m L c z) (h' : fx m L c z') : z = z' := by
  rcases h with ⟨a1, a2, a3, a4⟩ | ⟨a1, a2⟩
  · rcases h' with ⟨b1, b2, b3, b4⟩ | ⟨b1, b2⟩
    · rcases Int.lt_trichotomy z z' with x | x | x
      · exact absurd a3 (b4 z.toNat (by omega))
      · exact x
      · exact absurd b3 (a4 z'.toNat (by omega))
    · exact absurd a3 (b2 z.toNat (by omega))
  · rcases h' with ⟨b1, b2, b3, b4⟩ | ⟨b1, b2⟩
    · exact absurd b3 (a2 z'.toNat (by omega))
    · omega
theorem fx_c {m : Int} {L L' : Nat → Int} {c z : Int} (hL : ∀ l : Nat, (l : Int) < m → L' l = L l) (h : fx m L c z) : fx m L' c z := by
  rcases h with ⟨a1, a2, a3, a4⟩ | ⟨a1, a2⟩
  · exact Or.inl ⟨a1, a2, by rw [hL _ (by omega)]; exact a3, fun j hj => by rw [hL j (by omega)]; exact a4 j hj⟩
  · exact Or.inr ⟨a1, fun j hj => by rw [hL j hj]; exact a2 j hj⟩
/-- the token from a on: its kind k, its worth v, its place s, where it ends e -/
def tq_T (n : Int) (c : Nat → Int) (m : Int) (L : Nat → Int) (a k v s e : Int) : Prop :=
  tx_end tx_blk n c a s ∧ ((¬ s < n ∧ k = 0 ∧ e = s) ∨ (s < n ∧ (
    (tx_dig (c s.toNat) ∧ tx_end tx_dig n c s e ∧ ((e - s ≤ 4 ∧ k = 1 ∧ v = tx_dec c s (e - s).toNat) ∨ (4 < e - s ∧ k = -1))) ∨
    (tx_low (c s.toNat) ∧ tx_end tx_low n c s e ∧ ((e - s ≤ 6 ∧ v = tx_code c s (e - s).toNat ∧ ∃ z, fx m L v z ∧ k = if z = -1 then 2 else 3 + z) ∨ (6 < e - s ∧ k = -1))) ∨
    (¬ tx_dig (c s.toNat) ∧ ¬ tx_low (c s.toNat) ∧ e = s + 1 ∧ ∃ z, fx m L (-(c s.toNat)) z ∧ k = if z = -1 then -1 else 3 + z))))
theorem tq_u {n : Int} {c : Nat → Int} {m : Int} {L : Nat → Int} {a k v s e k' v' s' e' : Int} (h : tq_T n c m L a k v s e) (h' : tq_T n c m L a k' v' s' e') : k = k' ∧ s = s' ∧ e = e' ∧ ((k = 1 ∨ k = 2) → v = v') := by
  obtain ⟨h1, h2⟩ := h
  obtain ⟨g1, g2⟩ := h'
  have es := tx_end_u h1 g1
  subst es
  have kz : ∀ z z' : Int, z = z' → (if z = -1 then (2 : Int) else 3 + z) = if z' = -1 then 2 else 3 + z' := fun z z' e => by rw [e]
  have kz2 : ∀ z z' : Int, z = z' → (if z = -1 then (-1 : Int) else 3 + z) = if z' = -1 then -1 else 3 + z' := fun z z' e => by rw [e]
  rcases h2 with ⟨x1, x2, x3⟩ | ⟨x1, x2⟩
  · rcases g2 with ⟨y1, y2, y3⟩ | ⟨y1, y2⟩
    · exact ⟨by omega, rfl, by omega, fun q => by omega⟩
    · omega
  rcases g2 with ⟨y1, y2, y3⟩ | ⟨y1, y2⟩
  · omega
  unfold tx_dig tx_low at x2 y2
  rcases x2 with ⟨x3, x4, x5⟩ | ⟨x3, x4, x5⟩ | ⟨x3, x4, x5, z, x6, x7⟩
  · rcases y2 with ⟨y3, y4, y5⟩ | ⟨y3, -⟩ | ⟨y3, -⟩
    · have ee := tx_end_u x4 y4
      subst ee
      rcases x5 with ⟨u1, u2, u3⟩ | ⟨u1, u2⟩ <;> rcases y5 with ⟨w1, w2, w3⟩ | ⟨w1, w2⟩
      · exact ⟨by omega, rfl, rfl, fun _ => by omega⟩
      · omega
      · omega
      · exact ⟨by omega, rfl, rfl, fun q => by omega⟩
    · exfalso; omega
    · exact absurd x3 y3
  · rcases y2 with ⟨y3, -⟩ | ⟨y3, y4, y5⟩ | ⟨-, y3, -⟩
    · exfalso; omega
    · have ee := tx_end_u x4 y4
      subst ee
      rcases x5 with ⟨u1, u2, z, u3, u4⟩ | ⟨u1, u2⟩ <;> rcases y5 with ⟨w1, w2, z', w3, w4⟩ | ⟨w1, w2⟩
      · have ev : v = v' := by omega
        subst ev
        exact ⟨by rw [u4, w4]; exact kz _ _ (fx_u u3 w3), rfl, rfl, fun _ => rfl⟩
      · omega
      · omega
      · exact ⟨by omega, rfl, rfl, fun q => by omega⟩
    · exact absurd x3 y3
  · rcases y2 with ⟨y3, -⟩ | ⟨y3, -⟩ | ⟨y3, y4, y5, z', y6, y7⟩
    · exact absurd y3 x3
    · exact absurd y3 x4
    · have ez := fx_u x6 y6
      refine ⟨by rw [x7, y7]; exact kz2 _ _ ez, rfl, by omega, fun q => ?_⟩
      exfalso
      have zb : z = -1 ∨ 0 ≤ z := by
        rcases x6 with ⟨b1, -⟩ | ⟨b1, -⟩
        · exact Or.inr b1
        · exact Or.inl b1
      by_cases c1 : z = -1
      · rw [if_pos c1] at x7
        omega
      · rw [if_neg c1] at x7
        omega
theorem tx_end_c {p : Int → Prop} {n : Int} {c c' : Nat → Int} {k e : Int} (k0 : 0 ≤ k) (hc : ∀ i : Nat, (i : Int) < n → c' i = c i) (h : tx_end p n c k e) : tx_end p n c' k e := by
  obtain ⟨h1, h2, h3⟩ := h
  refine ⟨h1, fun j j0 j1 => ?_, fun q => ?_⟩
  · obtain ⟨a, b⟩ := h2 j j0 j1
    exact ⟨a, by rw [hc _ (by omega)]; exact b⟩
  · rw [hc _ (by omega)] at q
    exact h3 q
theorem tx_code_c {n : Int} {c c' : Nat → Int} (hc : ∀ i : Nat, (i : Int) < n → c' i = c i) : ∀ (m : Nat) (k : Int), 0 ≤ k → k + m ≤ n → tx_code c' k m = tx_code c k m := by
  intro m
  induction m with
  | zero => intro k _ _; rfl
  | succ m ih =>
    intro k k0 k1
    show (c' k.toNat - 96) + 32 * tx_code c' (k + 1) m = (c k.toNat - 96) + 32 * tx_code c (k + 1) m
    rw [ih (k + 1) (by omega) (by omega), hc _ (by omega)]
theorem tx_dec_c {n : Int} {c c' : Nat → Int} (hc : ∀ i : Nat, (i : Int) < n → c' i = c i) {k : Int} (k0 : 0 ≤ k) : ∀ m : Nat, k + m ≤ n → tx_dec c' k m = tx_dec c k m := by
  intro m
  induction m with
  | zero => intro _; rfl
  | succ m ih =>
    intro k1
    show 10 * tx_dec c' k m + (c' (k + m).toNat - 48) = 10 * tx_dec c k m + (c (k + m).toNat - 48)
    rw [ih (by omega), hc _ (by omega)]
theorem tq_T_c {n : Int} {c c' : Nat → Int} {m : Int} {L L' : Nat → Int} {a k v s e : Int} (a0 : 0 ≤ a) (hc : ∀ i : Nat, (i : Int) < n → c' i = c i) (hL : ∀ l : Nat, (l : Int) < m → L' l = L l) (h : tq_T n c m L a k v s e) : tq_T n c' m L' a k v s e := by
  obtain ⟨h1, h2⟩ := h
  have as := h1.1
  refine ⟨tx_end_c a0 hc h1, ?_⟩
  rcases h2 with x | ⟨x1, x2⟩
  · exact Or.inl x
  refine Or.inr ⟨x1, ?_⟩
  have cs : c' s.toNat = c s.toNat := hc _ (by omega)
  rw [cs]
  rcases x2 with ⟨x3, x4, x5⟩ | ⟨x3, x4, x5⟩ | ⟨x3, x4, x5, z, x6, x7⟩
  · have en := tx_end_n x4 (by omega)
    refine Or.inl ⟨x3, tx_end_c (by omega) hc x4, ?_⟩
    rcases x5 with ⟨u1, u2, u3⟩ | u
    · have := x4.1
      exact Or.inl ⟨u1, u2, by rw [u3, tx_dec_c hc (by omega) _ (by omega)]⟩
    · exact Or.inr u
  · have en := tx_end_n x4 (by omega)
    refine Or.inr (Or.inl ⟨x3, tx_end_c (by omega) hc x4, ?_⟩)
    rcases x5 with ⟨u1, u2, z, u3, u4⟩ | u
    · have := x4.1
      exact Or.inl ⟨u1, by rw [u2, tx_code_c hc _ _ (by omega) (by omega)], z, fx_c hL u3, u4⟩
    · exact Or.inr u
  · exact Or.inr (Or.inr ⟨x3, x4, x5, z, fx_c hL x6, x7⟩)
/-- what is known of a token's worth -/
theorem tq_v {n : Int} {c : Nat → Int} {m : Int} {L : Nat → Int} {a k v s e : Int} (h : tq_T n c m L a k v s e) (hk : k = 1 ∨ k = 2) : 0 ≤ v ∧ v < 1073741824 := by
  obtain ⟨h1, h2⟩ := h
  rcases h2 with ⟨x1, x2, x3⟩ | ⟨x1, x2⟩
  · omega
  rcases x2 with ⟨x3, x4, x5⟩ | ⟨x3, x4, x5⟩ | ⟨x3, x4, x5, z, x6, x7⟩
  · rcases x5 with ⟨u1, u2, u3⟩ | ⟨u1, u2⟩
    · have := x4.1
      have b := tx_dec_b (c := c) (k := s) (e - s).toNat (fun j j0 j1 => (x4.2.1 j j0 (by omega)).2)
      have p4 : (10 : Int) ^ (e - s).toNat ≤ 10 ^ 4 := by
        have : (10 : Nat) ^ (e - s).toNat ≤ 10 ^ 4 := Nat.pow_le_pow_right (by decide) (by omega)
        exact_mod_cast this
      have e4 : (10 : Int) ^ 4 = 10000 := by decide
      omega
    · omega
  · rcases x5 with ⟨u1, u2, z, u3, u4⟩ | ⟨u1, u2⟩
    · have := x4.1
      have b := tx_code_b (c := c) (e - s).toNat s (fun j j0 j1 => (x4.2.1 j j0 (by omega)).2)
      have p4 : (32 : Int) ^ (e - s).toNat ≤ 32 ^ 6 := by
        have : (32 : Nat) ^ (e - s).toNat ≤ 32 ^ 6 := Nat.pow_le_pow_right (by decide) (by omega)
        exact_mod_cast this
      have e4 : (32 : Int) ^ 6 = 1073741824 := by decide
      omega
    · omega
  · exfalso
    have zb : z = -1 ∨ 0 ≤ z := by
      rcases x6 with ⟨b1, -⟩ | ⟨b1, -⟩
      · exact Or.inr b1
      · exact Or.inl b1
    by_cases c1 : z = -1
    · rw [if_pos c1] at x7
      omega
    · rw [if_neg c1] at x7
      omega
/-- all the tokens of a text: the j-th one begins to be looked for at p j; N is the end -/
def tq_S (n : Int) (c : Nat → Int) (m : Int) (L : Nat → Int) (K V : Int → Int) (p : Int → Int) (N : Int) : Prop := p 0 = 0 ∧ (∀ j, 0 ≤ j → j ≤ N → 0 ≤ p j ∧ p j ≤ n ∧ ∃ s, tq_T n c m L (p j) (K j) (V j) s (p (j + 1))) ∧ K N = 0 ∧ 0 ≤ N
/-! the class's Text, exactly: the input -/
def jx_at (h : sm_H) (k : Int) : Int := if 0 ≤ k ∧ k < mi_f h 6913 then mi_a h 55 k.toNat else 32
section JTX
variable {d : Nat} {h : sm_H} {zf zt zk : Int}
theorem jx_in (hS : ab_Sh sx_sk h) (k : Int) : 0 ≤ jx_at h k ∧ jx_at h k ≤ 65535 := by
  have bn := me_fb (c := 6913) hS rfl
  unfold jx_at
  by_cases c : 0 ≤ k ∧ k < mi_f h 6913
  · rw [if_pos c]
    exact me_ab (k := 55) (i := k.toNat) hS rfl (by decide) (by omega)
  · rw [if_neg c]
    omega
theorem me_jat (hS : ab_Sh sx_sk h) (ok : mi_in zk) : me_E d 20 0 [some (.inr (.inr 54)), some (.inl zk)] [] h (fun w h' => h' = h ∧ w = some (.inl (jx_at h zk))) := by
  have fin : ∀ {z : Int}, z = jx_at h zk → ∀ h1, ab_Sh sx_sk h1 → ab_Fr [] h h1 → (h1 = h ∧ (some (.inl z) : Option mi_V) = some (.inl (jx_at h zk))) := fun {z} e h1 g1 g2 => ⟨me_nil g2, by rw [e]⟩
  refine mt_jtA hS ok ?_ ?_ ?_ ?_
  · intro c
    exact fin (by unfold jx_at; rw [if_neg (by omega)])
  · intro b c c2
    exact fin (by unfold jx_at; rw [if_neg (by omega)])
  · intro b c c2 c3
    exfalso; omega
  · intro b c c2 c3
    refine ⟨⟨⟨by omega, by omega⟩, me_ab (k := 55) (i := zk.toNat) hS rfl (by decide) (by omega)⟩, fin ?_⟩
    unfold jx_at
    rw [if_pos ⟨c, c2⟩]
theorem jb2 (hS : ab_Sh sx_sk h) (of : mi_in zf) (f0 : 0 ≤ zf) : ∀ (N : Nat) (zk : Int), 1000 - zk < N → zf ≤ zk → zk ≤ 1000 → (∀ j, zf ≤ j → j < zk → j < mi_f h 6913 ∧ tx_blk (mi_a h 55 j.toNat)) → me_E (d + 1) 19 2 [some (.inr (.inr 54)), some (.inl zf), some (.inl zk)] [] h (fun w h' => h' = h ∧ ∃ e, w = some (.inl e) ∧ tx_end tx_blk (mi_f h 6913) (mi_a h 55) zf e) := by
  have bn := me_fb (c := 6913) hS rfl
  intro N
  induction N with
  | zero => intro zk hN k0 k1; exfalso; omega
  | succ N ih =>
    intro zk hN k0 k1 hl
    have ok : mi_in zk := ⟨by omega, by omega⟩
    refine mt_jbB hS of ok ?_ ?_
    · intro b c h1 g1 g2
      exact ⟨me_nil g2, zk, rfl, k0, hl, fun x => by omega⟩
    · intro b c h1 g1 g2
      have e := me_nil g2
      subst e
      refine ⟨_, me_jat (d := d) hS ok, fun w h2 ow hq => ?_⟩
      obtain ⟨rfl, rfl⟩ := hq
      have ea : jx_at h2 zk = mi_a h2 55 zk.toNat := by unfold jx_at; rw [if_pos ⟨by omega, c⟩]
      have ob := jx_in hS zk
      have on : tx_blk (mi_a h2 55 zk.toNat) → me_E (d + 1) 19 2 [some (.inr (.inr 54)), some (.inl zf), some (.inl (zk + 1))] [] h2 (fun w h' => h' = h2 ∧ ∃ e, w = some (.inl e) ∧ tx_end tx_blk (mi_f h2 6913) (mi_a h2 55) zf e) := fun hb => by
        refine ih (zk + 1) (by omega) (by omega) (by omega) (fun j a1 a2 => ?_)
        by_cases ej : j = zk
        · subst ej
          exact ⟨c, hb⟩
        · exact hl j a1 (by omega)
      refine mt_jbC (zz := jx_at h2 zk) hS of ok ⟨by omega, by omega⟩ ?_ ?_ ?_
      · intro c2
        rw [ea] at c2
        refine ⟨⟨by omega, by omega⟩, fun h3 g1 g2 => ?_⟩
        have e := me_nil g2
        subst e
        exact on (Or.inl c2)
      · intro c2 c3 h3 g1 g2
        rw [ea] at c2 c3
        exact ⟨me_nil g2, zk, rfl, k0, hl, fun x => x.2.elim c2 c3⟩
      · intro c2 c3
        rw [ea] at c3
        refine ⟨⟨by omega, by omega⟩, fun h3 g1 g2 => ?_⟩
        have e := me_nil g2
        subst e
        exact on (Or.inr c3)
theorem me_jblanks (hS : ab_Sh sx_sk h) (f0 : 0 ≤ zf) (f1 : zf ≤ 300) : me_E (d + 1) 19 0 [some (.inr (.inr 54)), some (.inl zf), none] [] h (fun w h' => h' = h ∧ ∃ e, w = some (.inl e) ∧ tx_end tx_blk (mi_f h 6913) (mi_a h 55) zf e) := by
  have of : mi_in zf := ⟨by omega, by omega⟩
  refine mt_jbA hS of (fun h1 g1 g2 => ?_)
  have e := me_nil g2
  subst e
  exact jb2 hS of f0 1002 zf (by omega) (by omega) (by omega) (fun j a1 a2 => by omega)
theorem jl2 (hS : ab_Sh sx_sk h) (of : mi_in zf) (f0 : 0 ≤ zf) : ∀ (N : Nat) (zk : Int), 1000 - zk < N → zf ≤ zk → zk ≤ 1000 → (∀ j, zf ≤ j → j < zk → j < mi_f h 6913 ∧ tx_low (mi_a h 55 j.toNat)) → me_E (d + 1) 25 2 [some (.inr (.inr 54)), some (.inl zf), some (.inl zk)] [] h (fun w h' => h' = h ∧ ∃ e, w = some (.inl e) ∧ tx_end tx_low (mi_f h 6913) (mi_a h 55) zf e) := by
  have bn := me_fb (c := 6913) hS rfl
  intro N
  induction N with
  | zero => intro zk hN k0 k1; exfalso; omega
  | succ N ih =>
    intro zk hN k0 k1 hl
    have ok : mi_in zk := ⟨by omega, by omega⟩
    refine mt_jlB hS of ok ?_ ?_
    · intro b c h1 g1 g2
      exact ⟨me_nil g2, zk, rfl, k0, hl, fun x => by omega⟩
    · intro b c h1 g1 g2
      have e := me_nil g2
      subst e
      refine ⟨_, me_jat (d := d) hS ok, fun w h2 ow hq => ?_⟩
      obtain ⟨rfl, rfl⟩ := hq
      have ea : jx_at h2 zk = mi_a h2 55 zk.toNat := by unfold jx_at; rw [if_pos ⟨by omega, c⟩]
      have ob := jx_in hS zk
      refine mt_jlC (zz := jx_at h2 zk) hS of ok ⟨by omega, by omega⟩ ?_ ?_ ?_
      · intro c2 h3 g1 g2
        rw [ea] at c2
        exact ⟨me_nil g2, zk, rfl, k0, hl, fun x => by have := x.2.1; omega⟩
      · intro c2 c3 h3 g1 g2
        rw [ea] at c3
        exact ⟨me_nil g2, zk, rfl, k0, hl, fun x => by have := x.2.2; omega⟩
      · intro c2 c3
        rw [ea] at c2 c3
        refine ⟨⟨by omega, by omega⟩, fun h3 g1 g2 => ?_⟩
        have e := me_nil g2
        subst e
        refine ih (zk + 1) (by omega) (by omega) (by omega) (fun j a1 a2 => ?_)
        by_cases ej : j = zk
        · subst ej
          exact ⟨c, c2, c3⟩
        · exact hl j a1 (by omega)
theorem me_jletters (hS : ab_Sh sx_sk h) (f0 : 0 ≤ zf) (f1 : zf ≤ 300) : me_E (d + 1) 25 0 [some (.inr (.inr 54)), some (.inl zf), none] [] h (fun w h' => h' = h ∧ ∃ e, w = some (.inl e) ∧ tx_end tx_low (mi_f h 6913) (mi_a h 55) zf e) := by
  have of : mi_in zf := ⟨by omega, by omega⟩
  refine mt_jlA hS of (fun h1 g1 g2 => ?_)
  have e := me_nil g2
  subst e
  exact jl2 hS of f0 1002 zf (by omega) (by omega) (by omega) (fun j a1 a2 => by omega)
theorem jd2 (hS : ab_Sh sx_sk h) (of : mi_in zf) (f0 : 0 ≤ zf) : ∀ (N : Nat) (zk : Int), 1000 - zk < N → zf ≤ zk → zk ≤ 1000 → (∀ j, zf ≤ j → j < zk → j < mi_f h 6913 ∧ tx_dig (mi_a h 55 j.toNat)) → me_E (d + 1) 108 2 [some (.inr (.inr 54)), some (.inl zf), some (.inl zk)] [] h (fun w h' => h' = h ∧ ∃ e, w = some (.inl e) ∧ tx_end tx_dig (mi_f h 6913) (mi_a h 55) zf e) := by
  have bn := me_fb (c := 6913) hS rfl
  intro N
  induction N with
  | zero => intro zk hN k0 k1; exfalso; omega
  | succ N ih =>
    intro zk hN k0 k1 hl
    have ok : mi_in zk := ⟨by omega, by omega⟩
    refine mt_jdB hS of ok ?_ ?_
    · intro b c h1 g1 g2
      exact ⟨me_nil g2, zk, rfl, k0, hl, fun x => by omega⟩
    · intro b c h1 g1 g2
      have e := me_nil g2
      subst e
      refine ⟨_, me_jat (d := d) hS ok, fun w h2 ow hq => ?_⟩
      obtain ⟨rfl, rfl⟩ := hq
      have ea : jx_at h2 zk = mi_a h2 55 zk.toNat := by unfold jx_at; rw [if_pos ⟨by omega, c⟩]
      have ob := jx_in hS zk
      refine mt_jdC (zz := jx_at h2 zk) hS of ok ⟨by omega, by omega⟩ ?_ ?_ ?_
      · intro c2 h3 g1 g2
        rw [ea] at c2
        exact ⟨me_nil g2, zk, rfl, k0, hl, fun x => by have := x.2.1; omega⟩
      · intro c2 c3 h3 g1 g2
        rw [ea] at c3
        exact ⟨me_nil g2, zk, rfl, k0, hl, fun x => by have := x.2.2; omega⟩
      · intro c2 c3
        rw [ea] at c2 c3
        refine ⟨⟨by omega, by omega⟩, fun h3 g1 g2 => ?_⟩
        have e := me_nil g2
        subst e
        refine ih (zk + 1) (by omega) (by omega) (by omega) (fun j a1 a2 => ?_)
        by_cases ej : j = zk
        · subst ej
          exact ⟨c, c2, c3⟩
        · exact hl j a1 (by omega)
theorem me_jdigits (hS : ab_Sh sx_sk h) (f0 : 0 ≤ zf) (f1 : zf ≤ 300) : me_E (d + 1) 108 0 [some (.inr (.inr 54)), some (.inl zf), none] [] h (fun w h' => h' = h ∧ ∃ e, w = some (.inl e) ∧ tx_end tx_dig (mi_f h 6913) (mi_a h 55) zf e) := by
  have of : mi_in zf := ⟨by omega, by omega⟩
  refine mt_jdA hS of (fun h1 g1 g2 => ?_)
  have e := me_nil g2
  subst e
  exact jd2 hS of f0 1002 zf (by omega) (by omega) (by omega) (fun j a1 a2 => by omega)
/-- one letter more in front, in an int -/
theorem tx_pack33 {V X : Int} (v0 : 0 ≤ V) (v1 : V < 33554432) (x0 : 0 ≤ X) (x1 : X < 32) : (Int32.ofInt ((Int32.ofInt V <<< (Int32.ofInt ((5 : Int)) &&& 31)).toInt) ||| Int32.ofInt X).toInt = X + 32 * V := by
  rw [Int32.ofInt_toInt]
  have toN : ∀ {z : Int}, 0 ≤ z → z < 1073741824 → ((Int32.ofInt z).toBitVec.toNat : Int) = z := fun {z} h0 h1 => by
    have e2 : (Int32.ofInt z).toBitVec.toInt = z := mi_ti (z := z) ⟨by omega, by omega⟩
    have e3 := BitVec.toInt_eq_toNat_cond (Int32.ofInt z).toBitVec
    have e4 := (Int32.ofInt z).toBitVec.isLt
    split at e3 <;> omega
  have nX := toN x0 (by omega)
  have nV := toN v0 (by omega)
  generalize hA : Int32.ofInt X = A at nX
  generalize hB : Int32.ofInt V = B at nV
  have e5 : (Int32.ofInt ((5 : Int)) &&& 31).toBitVec.smod 32 = BitVec.ofNat 32 5 := by decide
  have main : ((B <<< (Int32.ofInt ((5 : Int)) &&& 31)) ||| A).toBitVec.toNat = B.toBitVec.toNat * 32 + A.toBitVec.toNat := by
    rw [Int32.toBitVec_or, BitVec.toNat_or, Int32.toBitVec_shiftLeft, e5]
    have e : (B.toBitVec <<< BitVec.ofNat 32 5) = B.toBitVec <<< 5 := by
      rw [BitVec.shiftLeft_eq', BitVec.toNat_ofNat]
    rw [e, BitVec.toNat_shiftLeft, Nat.mod_eq_of_lt (by rw [Nat.shiftLeft_eq]; omega), ← Nat.shiftLeft_add_eq_or_of_lt (by omega), Nat.shiftLeft_eq]
  show ((B <<< (Int32.ofInt ((5 : Int)) &&& 31)) ||| A).toBitVec.toInt = _
  rw [BitVec.toInt_eq_toNat_of_lt (by rw [main]; omega), main]
  omega
theorem jc7 (hS : ab_Sh sx_sk h) (f0 : 0 ≤ zf) (ft : zf ≤ zt) (t1 : zt ≤ mi_f h 6913) (t5 : zt - zf ≤ 6) (hl : ∀ j, zf ≤ j → j < zt → tx_low (mi_a h 55 j.toNat)) : ∀ (N : Nat) (zk : Int), zk - zf + 1 < N → zf - 1 ≤ zk → zk < zt → me_E (d + 1) 34 7 [some (.inr (.inr 54)), some (.inl zf), some (.inl zt), some (.inl (tx_code (mi_a h 55) (zk + 1) (zt - 1 - zk).toNat)), some (.inl zk)] [] h (fun w h' => h' = h ∧ w = some (.inl (tx_code (mi_a h 55) zf (zt - zf).toNat))) := by
  have bn := me_fb (c := 6913) hS rfl
  intro N
  induction N with
  | zero => intro zk hN k0; exfalso; omega
  | succ N ih =>
    intro zk hN k0 k1
    have of : mi_in zf := ⟨by omega, by omega⟩
    have ot : mi_in zt := ⟨by omega, by omega⟩
    have ok : mi_in zk := ⟨by omega, by omega⟩
    have cb := tx_code_b (c := mi_a h 55) (zt - 1 - zk).toNat (zk + 1) (fun j a1 a2 => hl j (by omega) (by omega))
    have p5 : (32 : Int) ^ (zt - 1 - zk).toNat ≤ 32 ^ 6 := by
      have : (32 : Nat) ^ (zt - 1 - zk).toNat ≤ 32 ^ 6 := Nat.pow_le_pow_right (by decide) (by omega)
      exact_mod_cast this
    have e32 : (32 : Int) ^ 6 = 1073741824 := by decide
    have ov : mi_in (tx_code (mi_a h 55) (zk + 1) (zt - 1 - zk).toNat) := ⟨by omega, by omega⟩
    refine mt_jcB hS of ot ov ok ?_ ?_
    · intro c h1 g1 g2
      have ek : zk = zf - 1 := by omega
      subst ek
      refine ⟨me_nil g2, ?_⟩
      rw [show zf - 1 + 1 = zf by omega, show zt - 1 - (zf - 1) = zt - zf by omega]
    · intro c h1 g1 g2
      have e := me_nil g2
      subst e
      refine ⟨_, me_jat (d := d) hS ok, fun w h2 ow hq => ?_⟩
      obtain ⟨rfl, rfl⟩ := hq
      have ea : jx_at h2 zk = mi_a h2 55 zk.toNat := by unfold jx_at; rw [if_pos ⟨by omega, by omega⟩]
      obtain ⟨x0, x1⟩ := hl zk c k1
      have p4 : (32 : Int) ^ (zt - 1 - zk).toNat ≤ 32 ^ 5 := by
        have : (32 : Nat) ^ (zt - 1 - zk).toNat ≤ 32 ^ 5 := Nat.pow_le_pow_right (by decide) (by omega)
        exact_mod_cast this
      have e4 : (32 : Int) ^ 5 = 33554432 := by decide
      have pk := tx_pack33 (V := tx_code (mi_a h2 55) (zk + 1) (zt - 1 - zk).toNat) (X := mi_a h2 55 zk.toNat - 97 + 1) cb.1 (by omega) (by omega) (by omega)
      refine mt_jcC (zz := jx_at h2 zk) (zy := (Int32.ofInt (tx_code (mi_a h2 55) (zk + 1) (zt - 1 - zk).toNat) <<< (Int32.ofInt ((5 : Int)) &&& 31)).toInt) hS of ot ov ok (by rw [ea]; exact ⟨by omega, by omega⟩) (mi_inT _) ?_
      rw [ea, pk]
      refine ⟨⟨⟨by omega, by omega⟩, ⟨by omega, by omega⟩, ⟨by omega, by omega⟩⟩, fun h3 g1 g2 => ?_⟩
      have e := me_nil g2
      subst e
      have em : (zt - 1 - zk).toNat + 1 = (zt - 1 - (zk + -1)).toNat := by omega
      have ec : mi_a h3 55 zk.toNat - 97 + 1 + 32 * tx_code (mi_a h3 55) (zk + 1) (zt - 1 - zk).toNat = tx_code (mi_a h3 55) (zk + -1 + 1) (zt - 1 - (zk + -1)).toNat := by
        rw [← em, show zk + -1 + 1 = zk by omega]
        show _ = (mi_a h3 55 zk.toNat - 96) + 32 * tx_code (mi_a h3 55) (zk + 1) (zt - 1 - zk).toNat
        omega
      rw [ec]
      exact ih (zk + -1) (by omega) (by omega) (by omega)
theorem me_jcode (hS : ab_Sh sx_sk h) (f0 : 0 ≤ zf) (ft : zf ≤ zt) (t1 : zt ≤ mi_f h 6913) (t5 : zt - zf ≤ 6) (hl : ∀ j, zf ≤ j → j < zt → tx_low (mi_a h 55 j.toNat)) : me_E (d + 1) 34 0 [some (.inr (.inr 54)), some (.inl zf), some (.inl zt), none, none] [] h (fun w h' => h' = h ∧ w = some (.inl (tx_code (mi_a h 55) zf (zt - zf).toNat))) := by
  have bn := me_fb (c := 6913) hS rfl
  refine mt_jcA hS ⟨by omega, by omega⟩ ⟨by omega, by omega⟩ ⟨⟨by omega, by omega⟩, fun h1 g1 g2 => ?_⟩
  have e := me_nil g2
  subst e
  have := jc7 (d := d) hS f0 ft t1 t5 hl 8 (zt - 1) (by omega) (by omega) (by omega)
  rw [show zt - 1 - (zt - 1) = 0 by omega] at this
  exact this
end JTX
/-! the class's takeToken, exactly -/
section PTK
variable {d : Nat} {h : sm_H}
theorem me_pliteral {zo zc : Int} (hS : ab_Sh sx_sk h) (oo : mi_in zo) (oc : mi_in zc) (hm : mi_f h 7698 ≤ 20) : me_E (d + 4) 110 0 [some (.inr (.inr 106)), some (.inl zo), some (.inl zc), none] [] h (fun w h' => h' = h ∧ ∃ z, fx (mi_f h 7698) (mi_a h 75) zc z ∧ w = some (.inl (if z = -1 then zo else 3 + z))) := by
  refine mt_kplA hS oo oc ?_
  intro h1 g1 g2
  have e := me_nil g2
  subst e
  refine ⟨_, me_gliteral (d := d + 2) hS oc hm, fun w h2 hw hq => ?_⟩
  obtain ⟨rfl, z, rfl, hz⟩ := hq
  have zb : -1 ≤ z ∧ z < 20 := by
    rcases hz with ⟨a, b, -⟩ | ⟨a, -⟩
    · omega
    · omega
  refine mt_kplB hS oo oc ⟨by omega, by omega⟩ ?_ ?_
  · intro c
    refine ⟨⟨by omega, by omega⟩, fun h3 r1 r2 => ⟨me_nil r2, z, hz, by rw [if_neg c]⟩⟩
  · intro c h3 r1 r2
    exact ⟨me_nil r2, z, hz, by rw [if_pos c]⟩
/-- a number: its worth, digit by digit -/
theorem pm47 (hS0 : ab_Sh sx_sk h) {s e : Int} (s0 : 0 ≤ s) (he : e ≤ mi_f h 6913) (e4 : e - s ≤ 4) (hd : ∀ j, s ≤ j → j < e → tx_dig (mi_a h 55 j.toNat)) : ∀ (K : Nat) (zk : Int) (h1 : sm_H), e - zk = K → s ≤ zk → zk ≤ e → ab_Sh sx_sk h1 → ab_Fr [(13575, 13576), (13577, 13579)] h h1 → mi_f h1 13577 = 1 → mi_f h1 13575 = e → mi_f h1 13578 = tx_dec (mi_a h 55) s (zk - s).toNat → me_E (d + 6) 107 47 [some (.inr (.inr 106)), some (.inl zk)] [] h1 (fun w h' => w = none ∧ ab_Sh sx_sk h' ∧ ab_Fr [(13575, 13576), (13577, 13579)] h h' ∧ mi_f h' 13577 = 1 ∧ mi_f h' 13575 = e ∧ mi_f h' 13578 = tx_dec (mi_a h 55) s (e - s).toNat) := by
  intro K
  induction K with
  | zero =>
    intro zk h1 hK k0 k1 hS hF h7 h5 h8
    have ek : zk = e := by omega
    subst ek
    have bn := me_fb (c := 6913) hS0 rfl
    refine mt_kpmC hS ⟨by omega, by omega⟩ (by intros; exfalso; omega) ?_ (by intros; exfalso; omega) (by intros; exfalso; omega) (by intros; exfalso; omega) (by intros; exfalso; omega)
    intro b b2 c1 c2 h2 g1 g2
    have e := me_nil g2
    subst e
    exact ⟨rfl, hS, hF, h7, h5, h8⟩
  | succ K ih =>
    intro zk h1 hK k0 k1 hS hF h7 h5 h8
    have f13 : mi_f h1 6913 = mi_f h 6913 := me_f (c := 6913) hF hS0 rfl rfl
    have f55 : ∀ i, mi_a h1 55 i = mi_a h 55 i := fun i => me_a (k := 55) hF hS0 rfl rfl
    have bn := me_fb (c := 6913) hS0 rfl
    obtain ⟨d1, d2⟩ := hd zk k0 (by omega)
    have db := tx_dec_b (c := mi_a h 55) (k := s) (zk - s).toNat (fun j j0 j1 => hd j j0 (by omega))
    have p4 : (10 : Int) ^ (zk - s).toNat ≤ 10 ^ 4 := by
      have : (10 : Nat) ^ (zk - s).toNat ≤ 10 ^ 4 := Nat.pow_le_pow_right (by decide) (by omega)
      exact_mod_cast this
    have e44 : (10 : Int) ^ 4 = 10000 := by decide
    rw [← h8] at db
    refine mt_kpmC hS ⟨by omega, by omega⟩ (by intros; exfalso; omega) (by intros; exfalso; omega) (by intros; exfalso; omega) (by intros; exfalso; omega) (by intros; exfalso; omega) ?_
    intro b b2 b3 b4 c1 c2 c3 c4 c5
    have ea := f55 zk.toNat
    refine ⟨⟨⟨by omega, by omega⟩, ⟨by omega, by omega⟩, ⟨by omega, by omega⟩, ⟨by omega, by omega⟩, ⟨by omega, by omega⟩, by omega, by omega⟩, fun h2 g1 g2 g3 => ?_⟩
    refine ih (zk + 1) h2 (by omega) (by omega) (by omega) g1 (hF.trans (g3.wide (fun c hc => ab_swr_ok (by decide) hc))) ((me_f (c := 13577) g3 hS rfl rfl).trans h7) ((me_f (c := 13575) g3 hS rfl rfl).trans h5) ?_
    have en : (zk + 1 - s).toNat = (zk - s).toNat + 1 := by omega
    have ez : (s + ((zk - s).toNat : Int)).toNat = zk.toNat := by omega
    rw [g2, en, h8, ea]
    show _ = 10 * tx_dec (mi_a h 55) s (zk - s).toNat + (mi_a h 55 (s + ((zk - s).toNat : Int)).toNat - 48)
    rw [ez]
    omega
theorem me_pnumber (hS : ab_Sh sx_sk h) {s : Int} (hs : mi_f h 13576 = s) (s1 : s < mi_f h 6913) (hd : tx_dig (mi_a h 55 s.toNat)) : me_E (d + 6) 107 0 [some (.inr (.inr 106)), none] [] h (fun w h' => w = none ∧ ab_Sh sx_sk h' ∧ ab_Fr [(13575, 13576), (13577, 13579)] h h' ∧ ∃ e, tx_end tx_dig (mi_f h 6913) (mi_a h 55) s e ∧ mi_f h' 13575 = e ∧ ((e - s ≤ 4 ∧ mi_f h' 13577 = 1 ∧ mi_f h' 13578 = tx_dec (mi_a h 55) s (e - s).toNat) ∨ (4 < e - s ∧ mi_f h' 13577 = -1))) := by
  have b76 := me_fb (c := 13576) hS rfl
  have bn := me_fb (c := 6913) hS rfl
  refine mt_kpmA hS ?_
  intro h1 g1 g2
  have e := me_nil g2
  subst e
  refine ⟨_, me_jdigits (d := d + 4) hS (by omega) (by omega), fun w h2 hw hq => ?_⟩
  obtain ⟨rfl, e, rfl, he⟩ := hq
  rw [hs] at he
  have en := tx_end_n he (by omega)
  have e0 := he.1
  refine mt_kpmB hS ⟨by omega, by omega⟩ ?_ ?_
  · intro b c
    refine ⟨⟨⟨by omega, by omega⟩, by omega, by omega⟩, fun h3 r1 r2 r3 r4 r5 => ?_⟩
    refine mt_kpmC r1 (by rw [hs]; exact ⟨by omega, by omega⟩) ?_ (by intros; exfalso; omega) (by intros; exfalso; omega) (by intros; exfalso; omega) (by intros; exfalso; omega) (by intros; exfalso; omega)
    intro b2 c2 h4 u1 u2
    have e' := me_nil u2
    subst e'
    exact ⟨rfl, r1, r5, e, he, r2, Or.inr ⟨by omega, r3⟩⟩
  · intro b c
    refine ⟨⟨⟨by omega, by omega⟩, by omega, by omega⟩, fun h3 r1 r2 r3 r4 r5 => ?_⟩
    rw [hs] at c ⊢
    refine (pm47 hS (s := s) (e := e) (by omega) en (by omega) (fun j j0 j1 => (he.2.1 j j0 j1).2) (e - s).toNat s h3 (by omega) (by omega) e0 r1 r5 r3 r2 (by rw [r4, Int.sub_self]; rfl)).imp (fun w h' hq => ?_)
    obtain ⟨q1, q2, q3, q4, q5, q6⟩ := hq
    exact ⟨q1, q2, q3, e, he, q5, Or.inl ⟨by omega, q4, q6⟩⟩
theorem me_pword (hS : ab_Sh sx_sk h) (hm : mi_f h 7698 ≤ 20) {s : Int} (hs : mi_f h 13576 = s) (s1 : s < mi_f h 6913) : me_E (d + 6) 109 0 [some (.inr (.inr 106))] [] h (fun w h' => w = none ∧ ab_Sh sx_sk h' ∧ ab_Fr [(13575, 13576), (13577, 13579)] h h' ∧ ∃ e, tx_end tx_low (mi_f h 6913) (mi_a h 55) s e ∧ mi_f h' 13575 = e ∧ ((e - s ≤ 6 ∧ mi_f h' 13578 = tx_code (mi_a h 55) s (e - s).toNat ∧ ∃ z, fx (mi_f h 7698) (mi_a h 75) (tx_code (mi_a h 55) s (e - s).toNat) z ∧ mi_f h' 13577 = if z = -1 then 2 else 3 + z) ∨ (6 < e - s ∧ mi_f h' 13577 = -1))) := by
  have b76 := me_fb (c := 13576) hS rfl
  have bn := me_fb (c := 6913) hS rfl
  refine mt_kpoA hS ?_
  intro h1 g1 g2
  have e := me_nil g2
  subst e
  refine ⟨_, me_jletters (d := d + 4) hS (by omega) (by omega), fun w h2 hw hq => ?_⟩
  obtain ⟨rfl, e, rfl, he⟩ := hq
  rw [hs] at he
  have en := tx_end_n he (by omega)
  have e0 := he.1
  refine mt_kpoB hS ⟨by omega, by omega⟩ ?_ ?_
  · intro b c
    refine ⟨⟨⟨by omega, by omega⟩, by omega, by omega⟩, fun h3 r1 r2 r3 r5 => ?_⟩
    exact ⟨rfl, r1, r5.wide (fun c hc => ab_swr_ok (by decide) hc), e, he, r2, Or.inr ⟨by omega, r3⟩⟩
  · intro b c
    refine ⟨⟨⟨by omega, by omega⟩, by omega, by omega⟩, fun h3 r1 r2 r3 r5 => ?_⟩
    have f13 : mi_f h3 6913 = mi_f h2 6913 := me_f (c := 6913) r5 hS rfl rfl
    have f55 : mi_a h3 55 = mi_a h2 55 := funext fun i => me_a (k := 55) r5 hS rfl rfl
    rw [hs]
    refine ⟨_, me_jcode (d := d + 4) r1 (zf := s) (zt := e) (by omega) e0 (by omega) (by omega) (fun j j0 j1 => by rw [f55]; exact (he.2.1 j j0 j1).2), fun w h4 hw hq => ?_⟩
    obtain ⟨rfl, rfl⟩ := hq
    rw [f55] at hw ⊢
    refine mt_kpoC r1 (hw _ rfl) ?_
    intro h5 u1 u2 u3
    have F5 : ab_Fr [(13575, 13576), (13577, 13579)] h2 h5 := (r5.wide (fun c hc => ab_swr_ok (by decide) hc)).trans (u3.wide (fun c hc => ab_swr_ok (by decide) hc))
    have f98 : mi_f h5 7698 = mi_f h2 7698 := me_f (c := 7698) F5 hS rfl rfl
    have f75 : mi_a h5 75 = mi_a h2 75 := funext fun i => me_a (k := 75) F5 hS rfl rfl
    refine ⟨_, me_pliteral (d := d + 1) u1 ⟨by decide, by decide⟩ (hw _ rfl) (by omega), fun w h6 hw6 hq => ?_⟩
    obtain ⟨rfl, z, hz, rfl⟩ := hq
    rw [f98, f75] at hz
    refine mt_kpoD u1 (hw6 _ rfl) ?_
    intro h7 v1 v2 v3
    exact ⟨rfl, v1, F5.trans (v3.wide (fun c hc => ab_swr_ok (by decide) hc)), e, he, by rw [me_f (c := 13575) v3 u1 rfl rfl, me_f (c := 13575) u3 r1 rfl rfl]; exact r2, Or.inl ⟨by omega, by rw [me_f (c := 13578) v3 u1 rfl rfl]; exact u2, z, hz, v2⟩⟩
def ptk_Q (h : sm_H) (a : Int) (w : Option mi_V) (h' : sm_H) : Prop := w = none ∧ ab_Sh sx_sk h' ∧ ab_Fr [(13571, 13572), (13575, 13580)] h h' ∧ ∃ k v s e, tq_T (mi_f h 6913) (mi_a h 55) (mi_f h 7698) (mi_a h 75) a k v s e ∧ mi_f h' 13577 = k ∧ ((k = 1 ∨ k = 2) → mi_f h' 13578 = v) ∧ mi_f h' 13575 = e ∧ ((k = -1 ∧ mi_f h' 13571 = 1 ∧ 0 ≤ mi_f h' 13579) ∨ (k ≠ -1 ∧ mi_f h' 13571 = mi_f h 13571 ∧ mi_f h' 13579 = mi_f h 13579))
theorem me_ptake {a : Int} (hS : ab_Sh sx_sk h) (hm : mi_f h 7698 ≤ 20) (ha : mi_f h 13575 = a) (a1 : a ≤ mi_f h 6913) : me_E (d + 8) 106 0 [some (.inr (.inr 106)), none] [] h (ptk_Q h a) := by
  have b75 := me_fb (c := 13575) hS rfl
  have bn := me_fb (c := 6913) hS rfl
  refine mt_kptA hS ?_
  intro h1 g1 g2
  have e := me_nil g2
  subst e
  refine ⟨_, me_jblanks (d := d + 6) hS (by omega) (by omega), fun w h2 hw hq => ?_⟩
  obtain ⟨rfl, s, rfl, hs⟩ := hq
  rw [ha] at hs
  have sn := tx_end_n hs a1
  have s0 := hs.1
  -- from 108 on
  have go108 : ∀ (zc : Int) (h5 : sm_H) (k v e : Int), mi_in zc → ab_Sh sx_sk h5 → ab_Fr [(13575, 13579)] h2 h5 → mi_f h5 13576 = s → tq_T (mi_f h2 6913) (mi_a h2 55) (mi_f h2 7698) (mi_a h2 75) a k v s e → mi_f h5 13577 = k → ((k = 1 ∨ k = 2) → mi_f h5 13578 = v) → mi_f h5 13575 = e → me_E (d + 8) 106 108 [some (.inr (.inr 106)), some (.inl zc)] [] h5 (ptk_Q h2 a) := by
    intro zc h5 k v e oc t1 t2 t3 t4 t5 t6 t7
    refine mt_kptG t1 oc ?_ ?_
    · intro b c h6 u1 u2
      have e' := me_nil u2
      subst e'
      exact ⟨rfl, t1, t2.wide (fun c hc => ab_swr_ok (by decide) hc), k, v, s, e, t4, t5, t6, t7, Or.inr ⟨by omega, me_f (c := 13571) t2 hS rfl rfl, me_f (c := 13579) t2 hS rfl rfl⟩⟩
    · intro b c h6 u1 u2 u3 u4
      refine ⟨rfl, u1, (t2.wide (fun c hc => ab_swr_ok (by decide) hc)).trans (u4.wide (fun c hc => ab_swr_ok (by decide) hc)), k, v, s, e, t4, (me_f (c := 13577) u4 t1 rfl rfl).trans t5, fun q => by omega, (me_f (c := 13575) u4 t1 rfl rfl).trans t7, Or.inl ⟨by omega, u2, by omega⟩⟩
  -- from 27 on
  have go27 : ∀ (zc : Int) (h3 : sm_H), mi_in zc → (s < mi_f h2 6913 → zc = mi_a h2 55 s.toNat) → ab_Sh sx_sk h3 → mi_f h3 13576 = s → ab_Fr [(13576, 13577)] h2 h3 → me_E (d + 8) 106 27 [some (.inr (.inr 106)), some (.inl zc)] [] h3 (ptk_Q h2 a) := by
    intro zc h3 oc hzc r1 r2 r3
    have f13 : mi_f h3 6913 = mi_f h2 6913 := me_f (c := 6913) r3 hS rfl rfl
    have f55 : mi_a h3 55 = mi_a h2 55 := funext fun i => me_a (k := 55) r3 hS rfl rfl
    have f98 : mi_f h3 7698 = mi_f h2 7698 := me_f (c := 7698) r3 hS rfl rfl
    have f75 : mi_a h3 75 = mi_a h2 75 := funext fun i => me_a (k := 75) r3 hS rfl rfl
    have F3 : ab_Fr [(13575, 13579)] h2 h3 := r3.wide (fun c hc => ab_swr_ok (by decide) hc)
    -- a sign
    have sgn : s < mi_f h2 6913 → ¬ tx_dig zc → ¬ tx_low zc → ∀ h4, ab_Sh sx_sk h4 → mi_f h4 13575 = mi_f h3 13576 + 1 → ab_Fr [(13575, 13576)] h3 h4 → ∃ Q1, me_E (d + 7) 110 0 (mi_entry 4 [.inr (.inr 106), .inl (-1 : Int), .inl (-zc)]) [] h4 Q1 ∧ ∀ w h5, (∀ x, w = some x → mi_ok x) → Q1 w h5 → me_E (d + 8) 106 105 [some (.inr (.inr 106)), some (.inl zc)] (mi_back w [.inr (.inr 106)]) h5 (ptk_Q h2 a) := by
      intro hlt nd nl h4 t1 t2 t3
      have ez := hzc hlt
      have bz := me_ab (k := 55) (i := s.toNat) hS rfl (by decide) (by omega)
      have g98 : mi_f h4 7698 = mi_f h2 7698 := (me_f (c := 7698) t3 r1 rfl rfl).trans f98
      have g75 : mi_a h4 75 = mi_a h2 75 := (funext fun i => me_a (k := 75) t3 r1 rfl rfl : mi_a h4 75 = mi_a h3 75).trans f75
      refine ⟨_, me_pliteral (d := d + 3) t1 ⟨by decide, by decide⟩ ⟨by omega, by omega⟩ (by omega), fun w h5 hw hq => ?_⟩
      obtain ⟨rfl, z, hz, rfl⟩ := hq
      rw [g98, g75, ez] at hz
      refine mt_kptF t1 oc (hw _ rfl) ?_
      intro h6 u1 u2 u3
      refine go108 zc h6 _ 0 (s + 1) oc u1 ((F3.trans (t3.wide (fun c hc => ab_swr_ok (by decide) hc))).trans (u3.wide (fun c hc => ab_swr_ok (by decide) hc))) (by rw [me_f (c := 13576) u3 t1 rfl rfl, me_f (c := 13576) t3 r1 rfl rfl]; exact r2) ⟨hs, Or.inr ⟨hlt, Or.inr (Or.inr ⟨by rw [← ez]; exact nd, by rw [← ez]; exact nl, rfl, z, hz, rfl⟩)⟩⟩ u2 (fun q => ?_) (by rw [me_f (c := 13575) u3 t1 rfl rfl, t2, r2])
      exfalso
      have zb : z = -1 ∨ 0 ≤ z := by
        rcases hz with ⟨b1, -⟩ | ⟨b1, -⟩
        · exact Or.inr b1
        · exact Or.inl b1
      by_cases c1 : z = -1
      · rw [if_pos c1] at q
        omega
      · rw [if_neg c1] at q
        omega
    -- a word
    have wrd : s < mi_f h2 6913 → tx_low zc → ∃ Q1, me_E (d + 7) 109 0 (mi_entry 1 [.inr (.inr 106)]) [] h3 Q1 ∧ ∀ w h5, (∀ x, w = some x → mi_ok x) → Q1 w h5 → me_E (d + 8) 106 82 [some (.inr (.inr 106)), some (.inl zc)] (mi_back w []) h5 (ptk_Q h2 a) := by
      intro hlt nl
      have ez := hzc hlt
      refine ⟨_, me_pword (d := d + 1) r1 (by omega) r2 (by omega), fun w h5 hw hq => ?_⟩
      obtain ⟨rfl, q1, q2, e, q3, q4, q5⟩ := hq
      rw [f13, f55] at q3
      rw [f55, f98, f75] at q5
      refine mt_kptE q1 oc ?_
      intro h6 u1 u2
      have e' := me_nil u2
      subst e'
      have F6 := F3.trans (q2.wide (fun c hc => ab_swr_ok (wr' := [(13575, 13579)]) (by decide) hc))
      have e76 : mi_f h6 13576 = s := (me_f (c := 13576) q2 r1 rfl rfl).trans r2
      rcases q5 with ⟨x1, x2, z, x3, x4⟩ | ⟨x1, x2⟩
      · exact go108 zc h6 _ (tx_code (mi_a h2 55) s (e - s).toNat) e oc q1 F6 e76 ⟨hs, Or.inr ⟨hlt, Or.inr (Or.inl ⟨by rw [← ez]; exact nl, q3, Or.inl ⟨x1, rfl, z, x3, rfl⟩⟩)⟩⟩ x4 (fun _ => x2) q4
      · exact go108 zc h6 (-1) 0 e oc q1 F6 e76 ⟨hs, Or.inr ⟨hlt, Or.inr (Or.inl ⟨by rw [← ez]; exact nl, q3, Or.inr ⟨x1, rfl⟩⟩)⟩⟩ x2 (fun q => by omega) q4
    refine mt_kptC r1 oc ?_ ?_ ?_ ?_ ?_ ?_ ?_ ?_
    · intro b b2 c1 c2 c3
      have bz := me_ab (k := 55) (i := s.toNat) hS rfl (by decide) (by omega)
      have ez := hzc (by omega)
      refine ⟨by omega, fun h4 t1 t2 t3 => sgn (by omega) (fun q => by have := q.1; omega) (fun q => by have := q.1; omega) h4 t1 t2 t3⟩
    · intro b b2 c1 c2 c3 c4
      exfalso; omega
    · intro b b2 c1 c2 c3 c4
      exfalso; omega
    · intro b b2 c1 c2 c3 c4
      have bz := me_ab (k := 55) (i := s.toNat) hS rfl (by decide) (by omega)
      have ez := hzc (by omega)
      refine ⟨by omega, fun h4 t1 t2 t3 => sgn (by omega) (fun q => by have := q.2; omega) (fun q => by have := q.1; omega) h4 t1 t2 t3⟩
    · intro b b2 c1 c2 c3 c4 c5
      have bz := me_ab (k := 55) (i := s.toNat) hS rfl (by decide) (by omega)
      have ez := hzc (by omega)
      refine ⟨by omega, fun h4 t1 t2 t3 => sgn (by omega) (fun q => by have := q.2; omega) (fun q => by have := q.2; omega) h4 t1 t2 t3⟩
    · intro b b2 c1 c2 c3 c4 c5 h4 t1 t2
      have e' := me_nil t2
      subst e'
      exact wrd (by omega) ⟨c4, c5⟩
    · intro b b2 c1 c2 c3 h4 t1 t2
      have e' := me_nil t2
      subst e'
      have ez := hzc (by omega)
      refine ⟨_, me_pnumber (d := d + 1) t1 r2 (by omega) (by rw [f55, ← ez]; exact ⟨c2, c3⟩), fun w h5 hw hq => ?_⟩
      obtain ⟨rfl, q1, q2, e, q3, q4, q5⟩ := hq
      rw [f13, f55] at q3
      rw [f55] at q5
      refine mt_kptD q1 oc ?_
      intro h6 u1 u2
      have e' := me_nil u2
      subst e'
      have F6 := F3.trans (q2.wide (fun c hc => ab_swr_ok (wr' := [(13575, 13579)]) (by decide) hc))
      have e76 : mi_f h6 13576 = s := (me_f (c := 13576) q2 r1 rfl rfl).trans r2
      rcases q5 with ⟨x1, x2, x3⟩ | ⟨x1, x2⟩
      · exact go108 zc h6 1 (tx_dec (mi_a h2 55) s (e - s).toNat) e oc q1 F6 e76 ⟨hs, Or.inr ⟨by omega, Or.inl ⟨by rw [← ez]; exact ⟨c2, c3⟩, q3, Or.inl ⟨x1, rfl, rfl⟩⟩⟩⟩ x2 (fun _ => x3) q4
      · exact go108 zc h6 (-1) 0 e oc q1 F6 e76 ⟨hs, Or.inr ⟨by omega, Or.inl ⟨by rw [← ez]; exact ⟨c2, c3⟩, q3, Or.inr ⟨x1, rfl⟩⟩⟩⟩ x2 (fun q => by omega) q4
    · intro b b2 c1
      refine ⟨by omega, fun h4 t1 t2 t3 t4 => ?_⟩
      exact go108 zc h4 0 0 s oc t1 (F3.trans (t4.wide (fun c hc => ab_swr_ok (by decide) hc))) (by rw [me_f (c := 13576) t4 r1 rfl rfl]; exact r2) ⟨hs, Or.inl ⟨by omega, rfl, rfl⟩⟩ t3 (fun q => by omega) (t2.trans r2)
  refine mt_kptB hS ⟨by omega, by omega⟩ (by intros; exfalso; omega) ?_ (by intros; exfalso; omega) ?_
  · intro b c1 c2
    refine ⟨⟨by omega, by omega⟩, fun h3 r1 r2 r3 => go27 32 h3 ⟨by decide, by decide⟩ (fun q => by omega) r1 r2 r3⟩
  · intro b c1 c2 c3
    have bz := me_ab (k := 55) (i := s.toNat) hS rfl (by decide) (by omega)
    refine ⟨⟨⟨by omega, by omega⟩, ⟨by omega, by omega⟩, bz.1, bz.2⟩, fun h3 r1 r2 r3 => go27 _ h3 ⟨by omega, by omega⟩ (fun _ => rfl) r1 r2 r3⟩
/-- so takeToken takes the tokens one by one -/
theorem pq_tok_of {E : pm_E} {p : Int → Int} {N : Int} {h0 : sm_H} (hm : mi_f h0 7698 ≤ 20) (hq : tq_S (mi_f h0 6913) (mi_a h0 55) (mi_f h0 7698) (mi_a h0 75) E.1 E.2.1 p N) : pq_tok E p N h0 := by
  intro d h j hS hx j0 j1 hp
  obtain ⟨x1, x2, x3, x4⟩ := hx
  obtain ⟨-, q2, -, -⟩ := hq
  obtain ⟨b1, b2, s', hs'⟩ := q2 j j0 j1
  refine (me_ptake (d := d) (a := p j) hS (by omega) hp (by omega)).imp (fun w h' hq => ?_)
  obtain ⟨q1, q2, q3, k, v, s, e, q4, q5, q6, q7, q8⟩ := hq
  have e55 : mi_a h 55 = mi_a h0 55 := funext x2
  have e75 : mi_a h 75 = mi_a h0 75 := funext x4
  rw [x1, e55, x3, e75] at q4
  obtain ⟨u1, u2, u3, u4⟩ := tq_u q4 hs'
  refine ⟨q1, q2, q3, by omega, fun q => ?_, by omega, ?_⟩
  · rw [q6 (by omega)]
    exact u4 (by omega)
  · rw [← u1]
    exact q8
end PTK
