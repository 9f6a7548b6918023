/-! the class prints tokens: letters, digits, signs -/
/-- at most n letters -/
def lgd : Nat → Int → Prop
  | 0, v => v = 0
  | n + 1, v => v = 0 ∨ (1 ≤ v % 32 ∧ v % 32 ≤ 26 ∧ lgd n (v / 32))
theorem owl_e : ∀ (W C C' : List Int), owl W C = some C' → C' = C ++ W := by
  intro W
  induction W with
  | nil => intro C C' h; injection h with h; rw [← h, List.append_nil]
  | cons c W ih =>
    intro C C' h
    obtain ⟨D, h1, h2⟩ := Option.bind_eq_some_iff.mp h
    unfold ow at h1
    split at h1
    · cases h1
    · injection h1 with h1
      subst h1
      rw [ih _ _ h2, List.append_assoc]
      rfl
theorem ob_e {c : Int} {o o' : ox} (h : ob c o = some o') : o'.2 = (0, 0, o.2.2.2) := by
  unfold ob at h
  obtain ⟨C, -, h2⟩ := Option.map_eq_some_iff.mp h
  rw [← h2]
/-- behind a token: what it ended with -/
theorem oCw_tok {h' : sm_H} {x : Option ox} {W : List Int} {zw : Int} (hW : W ≠ []) (hc : ∀ c ∈ W, (zw ≠ 0 ↔ wy c = true)) (h5 : mi_f h' 13835 = zw) : oCw h' (x.bind (otk W)) := by
  intro o ho _
  obtain ⟨o0, -, h1⟩ := Option.bind_eq_some_iff.mp ho
  unfold otk at h1
  obtain ⟨o1, h2, h3⟩ := Option.bind_eq_some_iff.mp h1
  unfold owlx at h3
  obtain ⟨C, h4, h6⟩ := Option.map_eq_some_iff.mp h3
  have e := owl_e _ _ _ h4
  rw [← h6]
  dsimp only
  rw [e, h5]
  have : olc (o1.1 ++ W) = W.getLast hW := by
    unfold olc
    rw [List.getLast?_append, List.getLast?_eq_some_getLast hW]
    rfl
  rw [this]
  exact hc _ (List.getLast_mem hW)
theorem lgd_0 : ∀ n : Nat, lgd n 0 := by
  intro n
  cases n with
  | zero => rfl
  | succ n => exact Or.inl rfl
theorem ltf_le : ∀ (n : Nat) (v : Int), lgd n v → ∀ m, n ≤ m → ltf m v = ltf n v := by
  intro n
  induction n with
  | zero =>
    intro v h m _
    have h : v = 0 := h
    subst h
    cases m with
    | zero => rfl
    | succ m =>
      have e : ltf (m + 1) 0 = [] := by rw [ltf, if_neg (by decide)]
      exact e
  | succ n ih =>
    intro v h m hm
    obtain ⟨m, rfl⟩ : ∃ k, m = k + 1 := ⟨m - 1, by omega⟩
    rw [ltf, ltf]
    by_cases c : 0 < v
    · rw [if_pos c, if_pos c]
      rcases h with h | ⟨-, -, h⟩
      · omega
      · rw [ih _ h m (by omega)]
    · rw [if_neg c, if_neg c]
theorem ltf_wy : ∀ (n : Nat) (v : Int), lgd n v → ∀ c ∈ ltf n v, wy c = true ∧ tx_alc c := by
  intro n
  induction n with
  | zero => intro v _ c hc; cases hc
  | succ n ih =>
    intro v h c hc
    rw [ltf] at hc
    by_cases cv : 0 < v
    · rw [if_pos cv] at hc
      rcases h with h | ⟨h1, h2, h3⟩
      · omega
      · rcases List.mem_cons.mp hc with rfl | hc
        · refine ⟨?_, Or.inr ⟨by omega, by omega⟩⟩
          unfold wy
          rw [decide_eq_true_eq]
          omega
        · exact ih _ h3 c hc
    · rw [if_neg cv] at hc
      cases hc
theorem lgd_b : ∀ (n : Nat) (v : Int), 0 ≤ v → lgd n v → v < 32 ^ n := by
  intro n
  induction n with
  | zero => intro v _ h; have h : v = 0 := h; subst h; decide
  | succ n ih =>
    intro v h0 h
    have e : (32 : Int) ^ (n + 1) = 32 ^ n * 32 := Int.pow_succ _ _
    have p : (0 : Int) < 32 ^ n := Int.pow_pos (by decide)
    rcases h with h | ⟨-, -, h⟩
    · omega
    · have := ih (v / 32) (by omega) h
      omega
theorem i32_and31 {z : Int} (h0 : 0 ≤ z) (h1 : z ≤ 1073741823) : (Int32.ofInt z &&& Int32.ofInt ((31 : Int))).toInt = z % 32 := by
  have oz : mi_in z := ⟨by omega, by omega⟩
  have ez : (Int32.ofInt z).toBitVec.toNat = z.toNat := by
    have e1 : (Int32.ofInt z).toBitVec.toInt = z := mi_ti oz
    have e3 := BitVec.toInt_eq_toNat_cond (Int32.ofInt z).toBitVec
    have e4 := (Int32.ofInt z).toBitVec.isLt
    split at e3 <;> omega
  have e31 : (Int32.ofInt ((31 : Int))).toBitVec.toNat = 31 := by decide
  have main : (Int32.ofInt z &&& Int32.ofInt ((31 : Int))).toBitVec.toNat = z.toNat % 32 := by
    rw [Int32.toBitVec_and, BitVec.toNat_and, e31, ez]
    exact Nat.and_two_pow_sub_one_eq_mod _ 5
  show (Int32.ofInt z &&& Int32.ofInt ((31 : Int))).toBitVec.toInt = _
  rw [BitVec.toInt_eq_toNat_of_lt (by rw [main]; omega), main]
  omega
section CTK
variable {d : Nat} {h : sm_H} {x : Option ox}
theorem cc32 {zc : Int} (oc : mi_in zc) : ∀ (n : Nat) (zr zk : Int) (h : sm_H) (x : Option ox), 6 - zk = n → 0 ≤ zk → 0 ≤ zr → zr ≤ 1073741823 → lgd n zr → ab_Sh sx_sk h → oC h x → me_E (d + 3) 141 32 [some (.inr (.inr 108)), some (.inl zc), some (.inl zr), some (.inl zk)] [] h (fun w h' => w = none ∧ ab_Sh sx_sk h' ∧ ab_Fr wr_c3 h h' ∧ oC h' (x.bind (owlx (ltf n zr)))) := by
  intro n
  induction n with
  | zero =>
    intro zr zk h x hn k0 r0 r1 hl hS hR
    refine mt_kocD hS oc ⟨by omega, by omega⟩ ⟨by omega, by omega⟩ ?_ (by intros; exfalso; omega) (by intros; exfalso; omega)
    intro c h1 g1 g2
    have e := me_nil g2
    subst e
    exact ⟨rfl, g1, ab_Fr.refl, by rw [show ltf 0 zr = [] from rfl, onil]; exact hR⟩
  | succ n ih =>
    intro zr zk h x hn k0 r0 r1 hl hS hR
    have oR' : mi_in zr := ⟨by omega, by omega⟩
    have ok : mi_in zk := ⟨by omega, by omega⟩
    refine mt_kocD hS oc oR' ok (by intros; exfalso; omega) ?_ ?_
    · intro c c2 h1 g1 g2
      have e := me_nil g2
      subst e
      refine ⟨rfl, g1, ab_Fr.refl, ?_⟩
      rw [ltf, if_neg (by omega), onil]
      exact hR
    · intro c c2
      rw [i32_and31 r0 r1]
      refine ⟨by omega, fun h1 g1 g2 => ?_⟩
      have e := me_nil g2
      subst e
      rcases hl with hl | ⟨l1, l2, l3⟩
      · exact absurd hl c2
      refine me_i2c (m := 141) (M := (4, 0, sb_141)) rfl rfl (by omega) (by omega) ?_
      refine mt_kocG g1 oc oR' ok ⟨by omega, by omega⟩ ?_
      intro h2 r2 r3
      have e := me_nil r3
      subst e
      refine ⟨_, me_wrc (d := d + 1) r2 (show tx_alc (96 + zr % 32) from Or.inr ⟨by omega, by omega⟩) hR, fun w h3 hw hq => ?_⟩
      obtain ⟨rfl, q1, q2, q3⟩ := hq
      refine mt_kocE q1 oc oR' ok ?_
      intro h4 s1 s2
      have e := me_nil s2
      subst e
      refine me_ush5 (m := 141) (M := (4, 0, sb_141)) rfl rfl r0 r1 ?_
      refine mt_kocH s1 oc oR' ok ⟨by omega, by omega⟩ ?_
      refine ⟨by omega, fun h5 t1 t2 => ?_⟩
      have e := me_nil t2
      subst e
      refine (ih (zr / 32) (zk + 1) h5 _ (by omega) (by omega) (by omega) (by omega) l3 t1 q3).imp (fun w h' hq => ⟨hq.1, hq.2.1, q2.trans hq.2.2.1, ?_⟩)
      have := hq.2.2.2
      rw [obind] at this
      rw [ltf, if_pos (by omega), Int.add_comm]
      exact this
/-- a name, a keyword, a sign -/
theorem me_codec {zc : Int} (hS : ab_Sh sx_sk h) (hz : (0 < zc ∧ lgd 6 zc) ∨ (zc < 0 ∧ tx_alc (-zc) ∧ wy (-zc) = false)) (i0 : 0 ≤ mi_f h 13832) (i1 : mi_f h 13832 ≤ 100000) (hR : oC h x) (hW : oCw h x) : me_E (d + 3) 141 0 [some (.inr (.inr 108)), some (.inl zc), none, none] [] h (fun w h' => w = none ∧ ab_Sh sx_sk h' ∧ ab_Fr wr_cs h h' ∧ oC h' (x.bind (otk (if 0 < zc then lts zc else [-zc]))) ∧ oCw h' (x.bind (otk (if 0 < zc then lts zc else [-zc])))) := by
  have e6 : (32 : Int) ^ 6 = 1073741824 := by decide
  have ub : zc ≤ 1073741823 := by
    rcases hz with ⟨z0, z1⟩ | ⟨z0, -⟩
    · have := lgd_b 6 zc (by omega) z1
      omega
    · omega
  have lb : -200 ≤ zc := by
    rcases hz with ⟨z0, z1⟩ | ⟨z0, z1, -⟩
    · omega
    · unfold tx_alc at z1
      omega
  have oc : mi_in zc := ⟨by omega, by omega⟩
  refine mt_kocA hS oc ?_ ?_
  · -- a sign
    intro c h1 g1 g2
    have e := me_nil g2
    subst e
    obtain ⟨z0, z1, z2⟩ := hz.resolve_left (fun q => by omega)
    refine ⟨_, me_sepc (d := d) (zw := 0) (zc := -zc) g1 (by decide) (by decide) ⟨fun q => absurd rfl q, fun q => by rw [z2] at q; cases q⟩ i0 i1 hR hW, fun w h2 hw hq => ?_⟩
    obtain ⟨rfl, q1, q2, q3, q4⟩ := hq
    refine mt_kocB q1 oc (by intros; exfalso; omega) ?_
    intro c2
    refine ⟨by omega, fun h3 r1 r2 => ?_⟩
    have e := me_nil r2
    subst e
    have z3 := z1
    unfold tx_alc at z3
    refine me_i2c (m := 141) (M := (4, 0, sb_141)) rfl rfl (by omega) (by omega) ?_
    refine mt_kocF r1 oc ⟨by omega, by omega⟩ ?_
    intro h4 s1 s2
    have e := me_nil s2
    subst e
    refine ⟨_, me_wrc (d := d + 1) s1 z1 q3, fun w h5 hw5 hq => ?_⟩
    obtain ⟨rfl, t1, t2, t3⟩ := hq
    refine mt_kocC t1 oc ?_ (by intros; exfalso; omega)
    intro c3 h6 l1 l2
    have e := me_nil l2
    subst e
    have F6 : ab_Fr wr_cs h1 h6 := q2.trans (t2.wide (fun c hc => ab_swr_ok (by decide) hc))
    have eo : (x.bind (ob (-zc))).bind (owx (-zc)) = x.bind (otk [-zc]) := by
      rw [← onil (x := (x.bind _).bind _), obind]
      cases x with
      | none => rfl
      | some o => rfl
    rw [eo] at t3
    rw [if_neg (by omega)]
    refine (cc32 (d := d) oc 6 0 0 h6 _ (by decide) (by decide) (by decide) (by decide) (lgd_0 6) l1 t3).imp (fun w h' hq => ⟨hq.1, hq.2.1, F6.trans (hq.2.2.1.wide (fun c hc => ab_swr_ok (by decide) hc)), ?_, ?_⟩)
    · have := hq.2.2.2
      rw [show ltf 6 0 = [] from rfl, onil] at this
      exact this
    · refine oCw_tok (zw := 0) (by simp) (fun c hc => ?_) ?_
      · rw [List.mem_singleton.mp hc, z2]
        exact ⟨fun q => absurd rfl q, fun q => by cases q⟩
      · rw [me_f (c := 13835) hq.2.2.1 l1 rfl rfl, me_f (c := 13835) t2 s1 rfl rfl]
        exact q4
  · -- letters
    intro c h1 g1 g2
    have e := me_nil g2
    subst e
    obtain ⟨z0, z1⟩ := hz.resolve_right (fun q => by omega)
    have hl : lts zc = ltf 6 zc := ltf_le 6 zc z1 7 (by decide)
    have hwy := ltf_wy 6 zc z1
    have e1 : ltf 6 zc = (zc % 32 + 96) :: ltf 5 (zc / 32) := by rw [ltf, if_pos z0]
    refine ⟨_, me_sepc (d := d) (zw := 1) (zc := zc % 32 + 96) g1 (by decide) (by decide) ⟨fun _ => (hwy _ (by rw [e1]; exact List.mem_cons_self)).1, fun _ => by decide⟩ i0 i1 hR hW, fun w h2 hw hq => ?_⟩
    obtain ⟨rfl, q1, q2, q3, q4⟩ := hq
    refine mt_kocB q1 oc ?_ (by intros; exfalso; omega)
    intro c2 h3 r1 r2
    have e := me_nil r2
    subst e
    refine mt_kocC r1 oc (by intros; exfalso; omega) ?_
    intro c3 h6 l1 l2
    have e := me_nil l2
    subst e
    rw [if_pos z0]
    refine (cc32 (d := d) oc 6 zc 0 h6 _ (by decide) (by decide) (by omega) ub z1 l1 q3).imp (fun w h' hq => ⟨hq.1, hq.2.1, q2.trans (hq.2.2.1.wide (fun c hc => ab_swr_ok (by decide) hc)), ?_, ?_⟩)
    · have := hq.2.2.2
      have eo : (x.bind (ob (zc % 32 + 96))).bind (owlx (ltf 6 zc)) = x.bind (otk (lts zc)) := by
        cases x with
        | none => rfl
        | some o =>
          show (ob (zc % 32 + 96) o).bind _ = otk (lts zc) o
          unfold otk
          rw [hl, e1]
          rfl
      rw [eo] at this
      exact this
    · refine oCw_tok (zw := 1) (by rw [hl, e1]; simp) (fun c hc => ?_) ?_
      · rw [hl] at hc
        exact ⟨fun _ => (hwy c hc).1, fun _ => by decide⟩
      · rw [me_f (c := 13835) hq.2.2.1 l1 rfl rfl]
        exact q4
/-- the digits, from a scale on -/
def cdg (n : Int) : Nat → Int → List Int
  | 0, _ => []
  | k + 1, s => if s ≤ n ∨ s = 1 then (48 + n / s % 10) :: cdg n k (s / 10) else cdg n k (s / 10)
theorem cdg_e {n : Int} (h0 : 0 ≤ n) (h1 : n ≤ 9999) : cdg n 4 1000 = dgs n := by
  have d1 : (1000 : Int) / 10 = 100 := by decide
  have d2 : (100 : Int) / 10 = 10 := by decide
  have d3 : (10 : Int) / 10 = 1 := by decide
  have d4 : (1 : Int) / 10 = 0 := by decide
  have p0 : ¬ (0 : Int) < 0 := by decide
  have f1 : dgf n 2 1 = [48 + n / 1 % 10] := by
    rw [dgf, if_pos (by decide), d4, dgf, if_neg p0]
  have f2 : dgf n 3 10 = (48 + n / 10 % 10) :: dgf n 2 1 := by
    rw [dgf, if_pos (by decide), d3]
  have f3 : dgf n 4 100 = (48 + n / 100 % 10) :: dgf n 3 10 := by
    rw [dgf, if_pos (by decide), d2]
  have z1 : ∀ k : Nat, dgf n (k + 2) 1 = [48 + n / 1 % 10] := fun k => by
    rw [dgf, if_pos (by decide), d4, dgf, if_neg p0]
  have z2 : ∀ k : Nat, dgf n (k + 3) 10 = (48 + n / 10 % 10) :: dgf n (k + 2) 1 := fun k => by
    rw [dgf, if_pos (by decide), d3]
  have z3 : ∀ k : Nat, dgf n (k + 4) 100 = (48 + n / 100 % 10) :: dgf n (k + 3) 10 := fun k => by
    rw [dgf, if_pos (by decide), d2]
  have z4 : ∀ k : Nat, dgf n (k + 5) 1000 = (48 + n / 1000 % 10) :: dgf n (k + 4) 100 := fun k => by
    rw [dgf, if_pos (by decide), d1]
  have c1 : cdg n 1 1 = [48 + n / 1 % 10] := by
    rw [cdg, if_pos (Or.inr rfl)]
    rfl
  have c2 : cdg n 2 10 = if 10 ≤ n ∨ (10 : Int) = 1 then (48 + n / 10 % 10) :: cdg n 1 1 else cdg n 1 1 := by rw [cdg, d3]
  have c3 : cdg n 3 100 = if 100 ≤ n ∨ (100 : Int) = 1 then (48 + n / 100 % 10) :: cdg n 2 10 else cdg n 2 10 := by rw [cdg, d2]
  have c4 : cdg n 4 1000 = if 1000 ≤ n ∨ (1000 : Int) = 1 then (48 + n / 1000 % 10) :: cdg n 3 100 else cdg n 3 100 := by rw [cdg, d1]
  unfold dgs dgu
  by_cases g1 : 999 < n
  · rw [if_pos g1, z4 0, z3 0, z2 0, z1 0, c4, if_pos (by omega), c3, if_pos (by omega), c2, if_pos (by omega), c1]
  · rw [if_neg g1, c4, if_neg (by omega), c3]
    by_cases g2 : 99 < n
    · rw [if_pos g2, z3 1, z2 1, z1 1, if_pos (by omega), c2, if_pos (by omega), c1]
    · rw [if_neg g2, if_neg (by omega), c2]
      by_cases g3 : 9 < n
      · rw [if_pos g3, z2 2, z1 2, if_pos (by omega), c1]
      · rw [if_neg g3, if_neg (by omega), z1 3, c1]
theorem cn9 {zn : Int} (n0 : 0 ≤ zn) (n1 : zn ≤ 9999) : ∀ (k : Nat) (zs : Int) (h : sm_H) (x : Option ox), ((k = 0 ∧ zs = 0) ∨ (k = 1 ∧ zs = 1) ∨ (k = 2 ∧ zs = 10) ∨ (k = 3 ∧ zs = 100) ∨ (k = 4 ∧ zs = 1000)) → ab_Sh sx_sk h → oC h x → me_E (d + 3) 138 9 [some (.inr (.inr 108)), some (.inl zn), some (.inl zs)] [] h (fun w h' => w = none ∧ ab_Sh sx_sk h' ∧ ab_Fr wr_c3 h h' ∧ oC h' (x.bind (owlx (cdg zn k zs)))) := by
  have on : mi_in zn := ⟨by omega, by omega⟩
  intro k
  induction k with
  | zero =>
    intro zs h x hk hS hR
    refine mt_konC hS on ⟨by omega, by omega⟩ ?_ (by intros; exfalso; omega) (by intros; exfalso; omega) (by intros; exfalso; omega)
    intro c h1 g1 g2
    have e := me_nil g2
    subst e
    exact ⟨rfl, g1, ab_Fr.refl, by rw [show cdg zn 0 zs = [] from rfl, onil]; exact hR⟩
  | succ k ih =>
    intro zs h x hk hS hR
    have os : mi_in zs := ⟨by omega, by omega⟩
    have s0 : 0 < zs := by omega
    have s1 : zs ≤ 1000 := by omega
    have dn : 0 ≤ zn / zs := Int.ediv_nonneg n0 (by omega)
    have dl : zn / zs ≤ zn := Int.ediv_le_self _ n0
    -- on to the next scale
    have nx : ∀ (h1 : sm_H) (y : Option ox), ab_Sh sx_sk h1 → ab_Fr wr_c3 h h1 → oC h1 y → me_E (d + 3) 138 37 [some (.inr (.inr 108)), some (.inl zn), some (.inl zs)] [] h1 (fun w h' => w = none ∧ ab_Sh sx_sk h' ∧ ab_Fr wr_c3 h h' ∧ oC h' (y.bind (owlx (cdg zn k (zs / 10))))) := by
      intro h1 y g1 g2 g3
      refine mt_konD g1 on os ?_
      intro h2 r1 r2
      have e := me_nil r2
      subst e
      rw [sh_div zs (by omega) (by omega)]
      exact (ih (zs / 10) h2 y (by omega) r1 g3).imp (fun w h' hq => ⟨hq.1, hq.2.1, g2.trans hq.2.2.1, hq.2.2.2⟩)
    -- a digit
    have dg : (zs ≤ zn ∨ zs = 1) → ∀ h1, ab_Sh sx_sk h1 → ab_Fr [] h h1 → me_E (d + 3) 138 33 [some (.inr (.inr 108)), some (.inl zn), some (.inl zs)] [.inl (48 + zn / zs % 10), .inr (.inr 108)] h1 (fun w h' => w = none ∧ ab_Sh sx_sk h' ∧ ab_Fr wr_c3 h h' ∧ oC h' (x.bind (owlx (cdg zn (k + 1) zs)))) := by
      intro hc h1 g1 g2
      have e := me_nil g2
      subst e
      refine me_i2c (m := 138) (M := (3, 0, sb_138)) rfl rfl (by omega) (by omega) ?_
      refine mt_konE g1 on os ⟨by omega, by omega⟩ ?_
      intro h2 r1 r2
      have e := me_nil r2
      subst e
      refine ⟨_, me_wrc (d := d + 1) r1 (show tx_alc (48 + zn / zs % 10) from Or.inr ⟨by omega, by omega⟩) hR, fun w h3 hw hq => ?_⟩
      obtain ⟨rfl, q1, q2, q3⟩ := hq
      refine (nx h3 _ q1 q2 q3).imp (fun w h' hq => ⟨hq.1, hq.2.1, hq.2.2.1, ?_⟩)
      have := hq.2.2.2
      rw [obind] at this
      rw [cdg, if_pos hc]
      exact this
    refine mt_konC hS on os (by intros; exfalso; omega) ?_ ?_ ?_
    · intro c c2
      rw [sh_divg n0 (by omega) s0 (by omega), sh_modg dn (by omega)]
      exact ⟨by omega, dg (Or.inl c2)⟩
    · intro c c2 c3 h1 g1 g2
      have e := me_nil g2
      subst e
      refine (nx h1 x g1 ab_Fr.refl hR).imp (fun w h' hq => ⟨hq.1, hq.2.1, hq.2.2.1, ?_⟩)
      rw [cdg, if_neg (by omega)]
      exact hq.2.2.2
    · intro c c2 c3
      rw [sh_divg n0 (by omega) s0 (by omega), sh_modg dn (by omega)]
      exact ⟨by omega, dg (Or.inr c3)⟩
theorem dgf_wy {n : Int} : ∀ (k : Nat) (e : Int), ∀ c ∈ dgf n k e, wy c = true := by
  intro k
  induction k with
  | zero => intro e c hc; cases hc
  | succ k ih =>
    intro e c hc
    rw [dgf] at hc
    split at hc
    · rcases List.mem_cons.mp hc with rfl | hc
      · unfold wy
        rw [decide_eq_true_eq]
        omega
      · exact ih _ c hc
    · cases hc
theorem me_numc {zn : Int} (hS : ab_Sh sx_sk h) (n0 : 0 ≤ zn) (n1 : zn ≤ 9999) (i0 : 0 ≤ mi_f h 13832) (i1 : mi_f h 13832 ≤ 100000) (hR : oC h x) (hW : oCw h x) : me_E (d + 3) 138 0 [some (.inr (.inr 108)), some (.inl zn), none] [] h (fun w h' => w = none ∧ ab_Sh sx_sk h' ∧ ab_Fr wr_cs h h' ∧ oC h' (x.bind (otk (dgs zn))) ∧ oCw h' (x.bind (otk (dgs zn)))) := by
  have on : mi_in zn := ⟨by omega, by omega⟩
  have hne : dgs zn = (48 + zn / dgu zn % 10) :: dgf zn 4 (dgu zn / 10) := by
    unfold dgs
    rw [dgf, if_pos (by unfold dgu; split <;> (try split) <;> (try split) <;> decide)]
  have hwy : ∀ c ∈ dgs zn, wy c = true := dgf_wy 5 (dgu zn)
  refine mt_konA hS on ?_
  intro h1 g1 g2
  have e := me_nil g2
  subst e
  refine ⟨_, me_sepc (d := d) (zw := 1) (zc := 48 + zn / dgu zn % 10) g1 (by decide) (by decide) ⟨fun _ => hwy _ (by rw [hne]; exact List.mem_cons_self), fun _ => by decide⟩ i0 i1 hR hW, fun w h2 hw hq => ?_⟩
  obtain ⟨rfl, q1, q2, q3, q4⟩ := hq
  refine mt_konB q1 on ?_
  intro h3 r1 r2
  have e := me_nil r2
  subst e
  refine (cn9 (d := d) n0 n1 4 1000 h3 _ (by omega) r1 q3).imp (fun w h' hq => ⟨hq.1, hq.2.1, q2.trans (hq.2.2.1.wide (fun c hc => ab_swr_ok (by decide) hc)), ?_, ?_⟩)
  · have := hq.2.2.2
    rw [cdg_e n0 n1] at this
    have eo : (x.bind (ob (48 + zn / dgu zn % 10))).bind (owlx (dgs zn)) = x.bind (otk (dgs zn)) := by
      cases x with
      | none => rfl
      | some o =>
        show (ob (48 + zn / dgu zn % 10) o).bind _ = otk (dgs zn) o
        unfold otk
        rw [hne]
        rfl
    rw [eo] at this
    exact this
  · refine oCw_tok (zw := 1) (by rw [hne]; simp) (fun c hc => ⟨fun _ => hwy c hc, fun _ => by decide⟩) ?_
    rw [me_f (c := 13835) hq.2.2.1 r1 rfl rfl]
    exact q4
end CTK
