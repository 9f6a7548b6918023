/-! the class's tree: what is exchanged -/
def rv_o (K : Nat → Int) (a b : Nat) (i : Nat) : Int := if a ≤ i ∧ i < b then K (a + b - 1 - i) else K i
section CX0
variable {d : Nat} {h0 : sm_H}
def tr_W : List (Nat × Nat) := [(13184, 13185), (13312, 13313), (13440, 13441)]
/-- on the way: what lies outside is turned already -/
def rv_m (K : Nat → Int) (a b : Nat) (l r : Int) (i : Nat) : Int := if (a ≤ i ∧ i < b) ∧ ((i : Int) < l ∨ r < i) then K (a + b - 1 - i) else K i
theorem rv_step {K L L' : Nat → Int} {a b : Nat} {l r : Int} (e : ∀ i, L i = rv_m K a b l r i) (h1 : (a : Int) ≤ l) (h2 : l + r = a + b - 1) (h3 : l < r) (e' : ∀ i, L' i = if i = r.toNat then L l.toNat else if i = l.toNat then L r.toNat else L i) : ∀ i, L' i = rv_m K a b (l + 1) (r + (-1)) i := by
  intro i
  rw [e']
  unfold rv_m at e ⊢
  by_cases c1 : i = r.toNat
  · rw [if_pos c1, e, if_neg (by omega), if_pos (by omega)]
    exact congrArg K (by omega)
  · rw [if_neg c1]
    by_cases c2 : i = l.toNat
    · rw [if_pos c2, e, if_neg (by omega), if_pos (by omega)]
      exact congrArg K (by omega)
    · rw [if_neg c2, e]
      by_cases c3 : (a ≤ i ∧ i < b) ∧ ((i : Int) < l ∨ r < i)
      · rw [if_pos c3, if_pos (by omega)]
      · rw [if_neg c3, if_neg (by omega)]
theorem tr7 {zf zt : Int} {K V : Nat → Int} (f0 : 0 ≤ zf) (ft : zf ≤ zt) (t1 : zt ≤ 100) : ∀ (N : Nat) (zl zr : Int) (h : sm_H), zr - zl < N → zf ≤ zl → zl + zr = zf + zt - 1 → -1 ≤ zr → ab_Sh sx_sk h → ab_Fr tr_W h0 h → (∀ i, mi_a h 103 i = rv_m K zf.toNat zt.toNat zl zr i) → (∀ i, mi_a h 104 i = rv_m V zf.toNat zt.toNat zl zr i) → me_E (d + 2) 154 7 [some (.inr (.inr 102)), some (.inl zf), some (.inl zt), some (.inl zl), some (.inl zr)] [] h (fun w h' => w = none ∧ ab_Sh sx_sk h' ∧ ab_Fr tr_W h0 h' ∧ (∀ i, mi_a h' 103 i = rv_o K zf.toNat zt.toNat i) ∧ ∀ i, mi_a h' 104 i = rv_o V zf.toNat zt.toNat i) := by
  have of : mi_in zf := ⟨by omega, by omega⟩
  have ot : mi_in zt := ⟨by omega, by omega⟩
  have fin : ∀ (K : Nat → Int) (zl zr : Int), zf ≤ zl → zl + zr = zf + zt - 1 → zr ≤ zl → ∀ i, rv_m K zf.toNat zt.toNat zl zr i = rv_o K zf.toNat zt.toNat i := by
    intro K zl zr h1 h2 h3 i
    unfold rv_m rv_o
    by_cases c : zf.toNat ≤ i ∧ i < zt.toNat
    · rw [if_pos c]
      by_cases c2 : (i : Int) < zl ∨ zr < i
      · rw [if_pos ⟨c, c2⟩]
      · rw [if_neg (fun q => c2 q.2)]
        exact congrArg K (by omega)
    · rw [if_neg c, if_neg (fun q => c q.1)]
  intro N
  induction N with
  | zero =>
    intro zl zr h hN h1 h2 hr hS hF e1 e2
    have ol : mi_in zl := ⟨by omega, by omega⟩
    have or_ : mi_in zr := ⟨by omega, by omega⟩
    refine mt_kgxB hS of ot ol or_ ?_ (by intros; exfalso; omega) (by intros; exfalso; omega) (by intros; exfalso; omega) (by intros; exfalso; omega) (by intros; exfalso; omega) (by intros; exfalso; omega) (by intros; exfalso; omega) (by intros; exfalso; omega) (by intros; exfalso; omega)
    intro c h1' g1 g2
    have e := me_nil g2
    subst e
    exact ⟨rfl, g1, hF, fun i => (e1 i).trans (fin K zl zr h1 h2 c i), fun i => (e2 i).trans (fin V zl zr h1 h2 c i)⟩
  | succ N ih =>
    intro zl zr h hN h1 h2 hr hS hF e1 e2
    have ol : mi_in zl := ⟨by omega, by omega⟩
    have or_ : mi_in zr := ⟨by omega, by omega⟩
    refine mt_kgxB hS of ot ol or_ ?_ (by intros; exfalso; omega) (by intros; exfalso; omega) (by intros; exfalso; omega) (by intros; exfalso; omega) (by intros; exfalso; omega) (by intros; exfalso; omega) (by intros; exfalso; omega) (by intros; exfalso; omega) ?_
    · intro c h1' g1 g2
      have e := me_nil g2
      subst e
      exact ⟨rfl, g1, hF, fun i => (e1 i).trans (fin K zl zr h1 h2 c i), fun i => (e2 i).trans (fin V zl zr h1 h2 c i)⟩
    · intro c1 c2 c3 c4 c5
      refine ⟨⟨⟨by omega, by omega⟩, by omega, by omega⟩, fun ha a1 a2 a3 => ?_⟩
      refine mt_kgxC a1 of ot ol or_ (by intros; exfalso; omega) (by intros; exfalso; omega) (by intros; exfalso; omega) (by intros; exfalso; omega) (by intros; exfalso; omega) (by intros; exfalso; omega) (by intros; exfalso; omega) (by intros; exfalso; omega) ?_
      intro d1 d2 d3 d4
      refine ⟨⟨⟨by omega, by omega⟩, by omega, by omega⟩, fun hb b1 b2 b3 => ?_⟩
      refine mt_kgxD b1 of ot ol or_ (by intros; exfalso; omega) (by intros; exfalso; omega) (by intros; exfalso; omega) (by intros; exfalso; omega) (by intros; exfalso; omega) (by intros; exfalso; omega) (by intros; exfalso; omega) (by intros; exfalso; omega) ?_
      intro p1 p2 p3 p4
      refine ⟨⟨⟨by omega, by omega⟩, ⟨by omega, by omega⟩, ⟨by omega, by omega⟩, by omega, by omega⟩, fun hc k1 k2 k3 => ?_⟩
      have E1 : ∀ i, mi_a hc 103 i = if i = zr.toNat then mi_a h 103 zl.toNat else if i = zl.toNat then mi_a h 103 zr.toNat else mi_a h 103 i := fun i => by
        rw [me_a (k := 103) k3 b1 rfl rfl, me_a (k := 103) b3 a1 rfl rfl, a2]
      have E2 : ∀ i, mi_a hc 104 i = if i = zr.toNat then mi_a h 104 zl.toNat else if i = zl.toNat then mi_a h 104 zr.toNat else mi_a h 104 i := fun i => by
        rw [me_a (k := 104) k3 b1 rfl rfl, b2, me_a (k := 104) a3 hS rfl rfl, me_a (k := 104) a3 hS rfl rfl, me_a (k := 104) a3 hS rfl rfl]
      have hF' : ab_Fr tr_W h0 hc := ((hF.trans (a3.wide (fun c hc => ab_swr_ok (by decide) hc))).trans (b3.wide (fun c hc => ab_swr_ok (by decide) hc))).trans (k3.wide (fun c hc => ab_swr_ok (by decide) hc))
      exact ih (zl + 1) (zr + (-1)) hc (by omega) (by omega) (by omega) (by omega) k1 hF' (rv_step e1 (by omega) (by omega) c1 E1) (rv_step e2 (by omega) (by omega) c1 E2)
theorem me_gturn {h : sm_H} {zf zt : Int} (hS : ab_Sh sx_sk h) (f0 : 0 ≤ zf) (ft : zf ≤ zt) (t1 : zt ≤ 100) : me_E (d + 2) 154 0 [some (.inr (.inr 102)), some (.inl zf), some (.inl zt), none, none] [] h (fun w h' => w = none ∧ ab_Sh sx_sk h' ∧ ab_Fr tr_W h h' ∧ (∀ i, mi_a h' 103 i = rv_o (mi_a h 103) zf.toNat zt.toNat i) ∧ ∀ i, mi_a h' 104 i = rv_o (mi_a h 104) zf.toNat zt.toNat i) := by
  have of : mi_in zf := ⟨by omega, by omega⟩
  have ot : mi_in zt := ⟨by omega, by omega⟩
  refine mt_kgxA hS of ot ?_
  refine ⟨⟨by omega, by omega⟩, fun h1 g1 g2 => ?_⟩
  have e := me_nil g2
  subst e
  have st : ∀ (K : Nat → Int) i, K i = rv_m K zf.toNat zt.toNat zf (zt - 1) i := fun K i => by
    unfold rv_m
    rw [if_neg (by omega)]
  exact tr7 f0 ft t1 200 zf (zt - 1) h1 (by omega) (by omega) (by omega) (by omega) g1 ab_Fr.refl (st _) (st _)
theorem rv_three {K : Nat → Int} {a m n : Nat} (h1 : a ≤ m) (h2 : m ≤ n) {K1 K2 K3 : Nat → Int} (e1 : ∀ i, K1 i = rv_o K a m i) (e2 : ∀ i, K2 i = rv_o K1 m n i) (e3 : ∀ i, K3 i = rv_o K2 a n i) : ∀ i, i < n → K3 i = K (if i < a then i else if i < a + (n - m) then i + (m - a) else i - (n - m)) := by
  intro i hi
  rw [e3]
  unfold rv_o at e1 e2 ⊢
  by_cases c1 : i < a
  · rw [if_pos c1, if_neg (by omega), e2, if_neg (by omega), e1, if_neg (by omega)]
  · rw [if_neg c1, if_pos (by omega), e2]
    by_cases c2 : i < a + (n - m)
    · rw [if_pos c2, if_pos (by omega), e1, if_neg (by omega)]
      exact congrArg K (by omega)
    · rw [if_neg c2, if_neg (by omega), e1, if_pos (by omega)]
      exact congrArg K (by omega)
theorem me_gexch {h : sm_H} {a m : Nat} {T : List (Int × Int × Int)} (hS : ab_Sh sx_sk h) (hT : gq_T h T) (h1 : a ≤ m) (h2 : m ≤ T.length) (h3 : T.length ≤ 100) : me_E (d + 4) 152 0 [some (.inr (.inr 107)), some (.inl (a : Int)), some (.inl (m : Int))] [] h (fun w h' => w = none ∧ ab_Sh sx_sk h' ∧ ab_Fr tr_W h h' ∧ gq_T h' (gm_rot a m T)) := by
  obtain ⟨t1, t2⟩ := hT
  have oa : mi_in (a : Int) := ⟨by omega, by omega⟩
  have om : mi_in (m : Int) := ⟨by omega, by omega⟩
  refine mt_kgpA hS oa om ?_
  intro ha a1 a2
  have e := me_nil a2
  subst e
  refine ⟨fun w h' => w = none ∧ ab_Sh sx_sk h' ∧ ab_Fr tr_W ha h' ∧ gq_T h' (gm_rot a m T), ?_, fun w h' hw hq => ?_⟩
  · refine mt_kgeA a1 oa om ?_
    intro hb b1 b2
    have e := me_nil b2
    subst e
    refine ⟨_, me_gturn (d := d) b1 (by omega) (by omega) (by omega), fun w hc hw hq => ?_⟩
    obtain ⟨rfl, c1, c2, c3, c4⟩ := hq
    have n1 : mi_f hc 13056 = T.length := (me_f (c := 13056) c2 b1 rfl rfl).trans t1
    refine mt_kgeB c1 oa om ?_
    intro hd d1 d2
    have e := me_nil d2
    subst e
    rw [n1]
    refine ⟨_, me_gturn (d := d) d1 (by omega) (by omega) (by omega), fun w he hw hq => ?_⟩
    obtain ⟨rfl, e1, e2, e3, e4⟩ := hq
    have n2 : mi_f he 13056 = T.length := (me_f (c := 13056) e2 d1 rfl rfl).trans n1
    refine mt_kgeC e1 oa om ?_
    intro hf f1 f2
    have e := me_nil f2
    subst e
    rw [n2]
    refine ⟨_, me_gturn (d := d) f1 (by omega) (by omega) (by omega), fun w hg hw hq => ?_⟩
    obtain ⟨rfl, k1, k2, k3, k4⟩ := hq
    refine mt_kgeD k1 oa om ?_
    intro hh l1 l2
    have e := me_nil l2
    subst e
    refine ⟨rfl, l1, (c2.trans e2).trans k2, ?_⟩
    rw [Int.toNat_natCast] at c3 c4 e3 e4 k3 k4
    rw [Int.toNat_natCast] at c3 c4 e3 e4 k3 k4
    have K3 := rv_three h1 h2 c3 e3 k3
    have V3 := rv_three h1 h2 c4 e4 k4
    have n3 : mi_f hh 13056 = T.length := (me_f (c := 13056) k2 f1 rfl rfl).trans n2
    unfold gq_T
    rw [gm_rot_len]
    refine ⟨n3, fun k hk => ?_⟩
    rw [K3 k hk, V3 k hk, gm_rot_get h1 h2, if_pos hk]
    refine t2 _ ?_
    split
    · omega
    · split <;> omega
  · obtain ⟨rfl, q1, q2, q3⟩ := hq
    refine mt_kgpB q1 oa om ?_
    intro hb b1 b2
    have e := me_nil b2
    subst e
    exact ⟨rfl, b1, q2, q3⟩
end CX0
