/-! the reference's letters, digits, shown, exactly -/
def ltf : Nat → Int → List Int
  | 0, _ => []
  | n + 1, v => if 0 < v then (v % 32 + 96) :: ltf n (v / 32) else []
def lts (v : Int) : List Int := ltf 7 v
def dgf (n : Int) : Nat → Int → List Int
  | 0, _ => []
  | k + 1, e => if 0 < e then (48 + n / e % 10) :: dgf n k (e / 10) else []
def dgu (n : Int) : Int := if 999 < n then 1000 else if 99 < n then 100 else if 9 < n then 10 else 1
def dgs (n : Int) : List Int := dgf n 5 (dgu n)
/-- the characters of a token: the literals, the sort, what, the value -/
def tkw (L : Nat → Int) (s w v : Int) : List Int := if s = 8 then (if 0 < L w.toNat then lts (L w.toNat) else [-(L w.toNat)]) else if s = 2 then lts v else dgs ((v - w + 10000) % 10000)
/-- a leaf is printed -/
def oev (L : Nat → Int) (s w v : Int) (o : ox) : Option ox := if s = 1 ∨ s = 2 ∨ s = 8 then otk (tkw L s w v) o else some (oly s o)
theorem lg_and31 {x : Int64} (h : 0 ≤ x.toInt) : ((x &&& (Int64.ofNat 31)).toInt32.toInt) = x.toInt % 32 := by
  have toN : ∀ {a : Int64}, 0 ≤ a.toInt → (a.toBitVec.toNat : Int) = a.toInt := fun {a} h0 => by
    have e2 : a.toBitVec.toInt = a.toInt := rfl
    have e3 := BitVec.toInt_eq_toNat_cond a.toBitVec
    have e4 := a.toBitVec.isLt
    split at e3 <;> omega
  have n1 := toN h
  have e31 : (Int64.ofNat 31).toBitVec.toNat = 31 := by decide
  have main : (x &&& (Int64.ofNat 31)).toBitVec.toNat = x.toBitVec.toNat % 32 := by
    rw [Int64.toBitVec_and, BitVec.toNat_and, e31]
    exact Nat.and_two_pow_sub_one_eq_mod _ 5
  have hz : (x &&& (Int64.ofNat 31)).toInt = x.toInt % 32 := by
    show (x &&& (Int64.ofNat 31)).toBitVec.toInt = _
    rw [BitVec.toInt_eq_toNat_of_lt (by rw [main]; omega), main]
    omega
  rw [Int64.toInt_toInt32, hz]
  exact Int.bmod_eq_of_le (by omega) (by omega)
theorem i32_add {a b : Int} (h0 : -1000000 ≤ a ∧ a ≤ 1000000) (h1 : -1000000 ≤ b ∧ b ≤ 1000000) : (Int32.ofInt a + Int32.ofInt b).toInt = a + b := by
  rw [← Int32.ofInt_add, mi_ti ⟨by omega, by omega⟩]
theorem sh_divg {z w : Int} (h0 : 0 ≤ z) (h1 : z ≤ 1000000) (w0 : 0 < w) (w1 : w ≤ 1000000) : (Int32.ofInt z / Int32.ofInt w).toInt = z / w := by
  have b1 : 0 ≤ z / w := Int.ediv_nonneg h0 (by omega)
  have b2 : z / w ≤ z := Int.ediv_le_self _ h0
  rw [Int32.toInt_div, mi_ti ⟨by omega, by omega⟩, mi_ti ⟨by omega, by omega⟩, Int.tdiv_eq_ediv_of_nonneg h0]
  exact Int.bmod_eq_of_le (by omega) (by omega)
theorem sh_modg {z : Int} (h0 : 0 ≤ z) (h1 : z ≤ 1000000) : (Int32.ofInt z - Int32.ofInt z / Int32.ofInt ((10 : Int)) * Int32.ofInt ((10 : Int))).toInt = z % 10 := by
  have e10 : (Int32.ofInt ((10 : Int))).toInt = 10 := rfl
  have ez : (Int32.ofInt z).toInt = z := mi_ti ⟨by omega, by omega⟩
  have ed := sh_divg (w := 10) h0 h1 (by decide) (by decide)
  have em : (Int32.ofInt z / Int32.ofInt ((10 : Int)) * Int32.ofInt ((10 : Int))).toInt = z / 10 * 10 := by
    rw [Int32.toInt_mul, ed, e10]
    exact Int.bmod_eq_of_le (by omega) (by omega)
  rw [Int32.toInt_sub, ez, em]
  rw [Int.bmod_eq_of_le (by omega) (by omega)]
  omega
theorem ltf_head {n : Nat} {v : Int} (h : 0 < v) : (ltf (n + 1) v).headD 0 = v % 32 + 96 := by
  unfold ltf
  rw [if_pos h]
  rfl
theorem obind {W : List Int} {c : Int} {x : Option ox} : (x.bind (owx c)).bind (owlx W) = x.bind (owlx (c :: W)) := by
  cases x with
  | none => rfl
  | some o =>
    show (owx c o).bind (owlx W) = owlx (c :: W) o
    unfold owx owlx
    show Option.bind (Option.map _ (ow c o.1)) _ = Option.map _ ((ow c o.1).bind (owl W))
    cases ow c o.1 with
    | none => rfl
    | some C => rfl
theorem onil {x : Option ox} : x.bind (owlx []) = x := by
  cases x with
  | none => rfl
  | some o => rfl
section SHX
variable {h : sm_H} {d : Nat} {x : Option ox}
theorem me_l2Cx {zw : Int64} : ∀ (n : Nat) (zv : Int64) (h : sm_H) (x : Option ox), zv.toInt < 32 ^ n → ab_Sh sx_sk h → oR h x → me_E (d + 1) 218 15 [some (.inr (.inr 109)), some (.inr (.inl zw)), none, some (.inr (.inl zv)), none] [] h (fun w h' => w = none ∧ ab_Sh sx_sk h' ∧ ab_Fr wr_pr h h' ∧ oR h' (x.bind (owlx (ltf n zv.toInt)))) := by
  intro n
  induction n with
  | zero =>
    intro zv h x hv hS hR
    have e1 : (32 : Int) ^ 0 = 1 := rfl
    refine mt_l2C hS ?_ ?_
    · intro c h1 g1 g2
      have e := me_nil g2
      subst e
      exact ⟨rfl, g1, ab_Fr.refl, by rw [show ltf 0 zv.toInt = [] from rfl, onil]; exact hR⟩
    · intro c
      have := lg_pos c
      omega
  | succ n ih =>
    intro zv h x hv hS hR
    refine mt_l2C hS ?_ ?_
    · intro c h1 g1 g2
      have e := me_nil g2
      subst e
      have c0 : ¬ 0 < zv.toInt := fun q => by
        have : (lg_cmp zv (Int64.ofNat 0)).toInt = 1 := by
          unfold lg_cmp
          rw [if_pos (by rw [gt_iff_lt, Int64.lt_iff_toInt_lt]; exact q)]
          rfl
        omega
      refine ⟨rfl, g1, ab_Fr.refl, ?_⟩
      unfold ltf
      rw [if_neg c0, onil]
      exact hR
    · intro c h1 g1 g2
      have e := me_nil g2
      subst e
      have hp := lg_pos c
      have em : zv.toInt % 32 < 32 := Int.emod_lt_of_pos _ (by decide)
      have em0 : 0 ≤ zv.toInt % 32 := Int.emod_nonneg _ (by decide)
      rw [lg_and31 (by omega), i32_add ⟨by omega, by omega⟩ ⟨by omega, by omega⟩]
      refine ⟨_, me_wrx g1 ⟨by omega, by omega⟩ hR, ?_⟩
      intro w h2 hw hq
      obtain ⟨rfl, q1, q2, q3⟩ := hq
      refine mt_l2D q1 ?_
      intro h3 r1 r2
      have e := me_nil r2
      subst e
      refine (ih _ h3 _ ?_ q1 q3).imp (fun w h' hq => ⟨hq.1, hq.2.1, (q2.wide (fun c hc => ab_swr_ok (by decide) hc)).trans hq.2.2.1, ?_⟩)
      · rw [lg_shr5]
        have : (32 : Int) ^ (n + 1) = 32 ^ n * 32 := Int.pow_succ _ _
        omega
      · have := hq.2.2.2
        rw [lg_shr5, obind] at this
        have el : ltf (n + 1) zv.toInt = (zv.toInt % 32 + 96) :: ltf n (zv.toInt / 32) := by
          rw [ltf, if_pos hp]
        rw [el]
        exact this
theorem me_letx {zw : Int64} (hS : ab_Sh sx_sk h) (i0 : 0 ≤ mi_f h 14036) (i1 : mi_f h 14036 ≤ 100000) (w0 : 0 < zw.toInt) (w1 : zw.toInt < 1073741824) (hR : oR h x) : me_E (d + 3) 218 0 [some (.inr (.inr 109)), some (.inr (.inl zw)), none, none, none] [] h (fun w h' => w = none ∧ ab_Sh sx_sk h' ∧ ab_Fr wr_pr h h' ∧ oR h' (x.bind (otk (lts zw.toInt)))) := by
  refine mt_l2A (d := d + 2) hS ?_
  intro h1 g1 g2
  have e := me_nil g2
  subst e
  have em : zw.toInt % 32 < 32 := Int.emod_lt_of_pos _ (by decide)
  have em0 : 0 ≤ zw.toInt % 32 := Int.emod_nonneg _ (by decide)
  rw [lg_and31 (by omega), i32_add ⟨by omega, by omega⟩ ⟨by omega, by omega⟩]
  refine ⟨_, me_bex g1 ⟨by omega, by omega⟩ i0 i1 hR, ?_⟩
  intro w h2 hw hq
  obtain ⟨rfl, q1, q2, q3⟩ := hq
  refine mt_l2B q1 ?_
  intro h3 r1 r2
  have e := me_nil r2
  subst e
  have e7 : (32 : Int) ^ 7 = 34359738368 := by decide
  refine (me_l2Cx 7 zw h3 _ (by omega) q1 q3).imp (fun w h' hq => ⟨hq.1, hq.2.1, q2.trans hq.2.2.1, ?_⟩)
  have := hq.2.2.2
  have eo : (x.bind (ob (zw.toInt % 32 + 96))).bind (owlx (ltf 7 zw.toInt)) = x.bind (otk (lts zw.toInt)) := by
    cases x with
    | none => rfl
    | some o =>
      show (ob (zw.toInt % 32 + 96) o).bind _ = otk (lts zw.toInt) o
      unfold otk lts
      rw [ltf_head (n := 6) w0]
  rw [eo] at this
  exact this
theorem me_shEx {zu zn zd : Int} {zv : Int64} (ou : mi_in zu) (n0 : 0 ≤ zn) (n1 : zn ≤ 9999) (od : mi_in zd) : ∀ (k : Nat) (ze : Int) (h : sm_H) (x : Option ox), 0 ≤ ze → ze ≤ 1000 → ze < 10 ^ k → ab_Sh sx_sk h → oR h x → me_E (d + 1) 217 176 [some (.inr (.inr 109)), some (.inl zu), some (.inr (.inl zv)), none, some (.inl zn), some (.inl zd), some (.inl ze)] [] h (fun w h' => w = none ∧ ab_Sh sx_sk h' ∧ ab_Fr wr_pr h h' ∧ oR h' (x.bind (owlx (dgf zn k ze)))) := by
  have on : mi_in zn := ⟨by omega, by omega⟩
  intro k
  induction k with
  | zero =>
    intro ze h x e0 e1 e2 hS hR
    have e1' : (10 : Int) ^ 0 = 1 := rfl
    refine mt_shE hS ou on od ⟨by omega, by omega⟩ ?_ (by intros; exfalso; omega)
    intro c h1 g1 g2
    have e := me_nil g2
    subst e
    exact ⟨rfl, g1, ab_Fr.refl, by rw [show dgf zn 0 ze = [] from rfl, onil]; exact hR⟩
  | succ k ih =>
    intro ze h x e0 e1 e2 hS hR
    refine mt_shE hS ou on od ⟨by omega, by omega⟩ ?_ ?_
    · intro c h1 g1 g2
      have e := me_nil g2
      subst e
      refine ⟨rfl, g1, ab_Fr.refl, ?_⟩
      rw [dgf, if_neg (by omega), onil]
      exact hR
    · intro c
      refine ⟨by omega, fun h1 g1 g2 => ?_⟩
      have e := me_nil g2
      subst e
      have b1 : 0 ≤ zn / ze := Int.ediv_nonneg n0 (by omega)
      have b2 : zn / ze ≤ zn := Int.ediv_le_self _ n0
      rw [sh_divg n0 (by omega) c (by omega), sh_modg b1 (by omega), i32_add ⟨by omega, by omega⟩ ⟨by omega, by omega⟩]
      refine ⟨_, me_wrx g1 ⟨by omega, by omega⟩ hR, ?_⟩
      intro w h2 hw hq
      obtain ⟨rfl, q1, q2, q3⟩ := hq
      refine mt_shF q1 ou on od ⟨by omega, by omega⟩ ?_
      intro h3 r1 r2
      have e := me_nil r2
      subst e
      rw [sh_div ze (by omega) (by omega)]
      have ep : (10 : Int) ^ (k + 1) = 10 ^ k * 10 := Int.pow_succ _ _
      refine (ih (ze / 10) h3 _ (by omega) (by omega) (by omega) q1 q3).imp (fun w h' hq => ⟨hq.1, hq.2.1, (q2.wide (fun c hc => ab_swr_ok (by decide) hc)).trans hq.2.2.1, ?_⟩)
      have := hq.2.2.2
      rw [obind] at this
      rw [dgf, if_pos c]
      exact this
theorem me_numx {zu zn : Int} {zv : Int64} (ou : mi_in zu) (n0 : 0 ≤ zn) (n1 : zn ≤ 9999) (hS : ab_Sh sx_sk h) (i0 : 0 ≤ mi_f h 14036) (i1 : mi_f h 14036 ≤ 100000) (hR : oR h x) : me_E (d + 3) 217 119 [some (.inr (.inr 109)), some (.inl zu), some (.inr (.inl zv)), none, some (.inl zn), none, none] [] h (fun w h' => w = none ∧ ab_Sh sx_sk h' ∧ ab_Fr wr_pr h h' ∧ oR h' (x.bind (otk (dgs zn)))) := by
  have on : mi_in zn := ⟨by omega, by omega⟩
  have go : ∀ (zd : Int), zd = dgu zn → (zd = 1 ∨ zd = 10 ∨ zd = 100 ∨ zd = 1000) → zn < 10 * zd → ∀ h1, ab_Sh sx_sk h1 → ab_Fr [] h h1 → me_E (d + 3) 217 160 [some (.inr (.inr 109)), some (.inl zu), some (.inr (.inl zv)), none, some (.inl zn), some (.inl zd), none] [] h1 (fun w h' => w = none ∧ ab_Sh sx_sk h' ∧ ab_Fr wr_pr h h' ∧ oR h' (x.bind (otk (dgs zn)))) := by
    intro zd hd hd4 hlt h1 g1 g2
    have e := me_nil g2
    subst e
    have od : mi_in zd := ⟨by omega, by omega⟩
    have b1 : 0 ≤ zn / zd := Int.ediv_nonneg n0 (by omega)
    have b2 : zn / zd < 10 := Int.ediv_lt_of_lt_mul (by omega) hlt
    refine mt_shC (d := d + 2) g1 ou on od ?_
    refine ⟨by omega, fun h2 r1 r2 => ?_⟩
    have e := me_nil r2
    subst e
    rw [sh_divg n0 (by omega) (by omega) (by omega), i32_add ⟨by omega, by omega⟩ ⟨by omega, by omega⟩]
    refine ⟨_, me_bex r1 ⟨by omega, by omega⟩ i0 i1 hR, ?_⟩
    intro w h3 hw hq
    obtain ⟨rfl, q1, q2, q3⟩ := hq
    refine mt_shD q1 ou on od ?_
    intro h4 s1 s2
    have e := me_nil s2
    subst e
    have e5 : (10 : Int) ^ 5 = 100000 := by decide
    refine (me_shEx ou n0 n1 od 5 zd h4 _ (by omega) (by omega) (by omega) q1 q3).imp (fun w h' hq => ⟨hq.1, hq.2.1, q2.trans hq.2.2.1, ?_⟩)
    have := hq.2.2.2
    have eo : (x.bind (ob (48 + zn / zd))).bind (owlx (dgf zn 5 zd)) = x.bind (otk (dgs zn)) := by
      have ehd : (dgs zn).headD 0 = 48 + zn / zd := by
        unfold dgs
        rw [← hd, dgf, if_pos (by omega)]
        show 48 + zn / zd % 10 = _
        rw [Int.emod_eq_of_lt b1 b2]
      cases x with
      | none => rfl
      | some o =>
        show (ob (48 + zn / zd) o).bind _ = otk (dgs zn) o
        unfold otk
        rw [ehd]
        unfold dgs
        rw [← hd]
    rw [eo] at this
    exact this
  refine mt_shB (d := d + 2) hS ou on ?_ ?_ ?_ ?_
  · intro c1 c2 c3
    exact go 1 (by unfold dgu; rw [if_neg (by omega), if_neg (by omega), if_neg (by omega)]) (by decide) (by omega)
  · intro c1 c2 c3
    exact go 10 (by unfold dgu; rw [if_neg (by omega), if_neg (by omega), if_pos (by omega)]) (by decide) (by omega)
  · intro c1 c2
    exact go 100 (by unfold dgu; rw [if_neg (by omega), if_pos (by omega)]) (by decide) (by omega)
  · intro c1
    exact go 1000 (by unfold dgu; rw [if_pos (by omega)]) (by decide) (by omega)
theorem sh_val {v : Int64} {w : Int} (v0 : 0 ≤ v.toInt) (v1 : v.toInt ≤ 9999) (w0 : 0 ≤ w) (w1 : w ≤ 9) : (((v - ((Int32.ofInt w).toInt64)) + (Int64.ofNat 10000)) - ((v - ((Int32.ofInt w).toInt64)) + (Int64.ofNat 10000)) / (Int64.ofNat 10000) * (Int64.ofNat 10000)).toInt32.toInt = (v.toInt - w + 10000) % 10000 := by
  have ew : ((Int32.ofInt w).toInt64).toInt = w := by rw [Int32.toInt_toInt64, mi_ti ⟨by omega, by omega⟩]
  have e4 : (Int64.ofNat 10000).toInt = 10000 := rfl
  have e1 : (v - ((Int32.ofInt w).toInt64)).toInt = v.toInt - w := by
    rw [Int64.toInt_sub, ew]
    exact Int.bmod_eq_of_le (by omega) (by omega)
  have e2 : ((v - ((Int32.ofInt w).toInt64)) + (Int64.ofNat 10000)).toInt = v.toInt - w + 10000 := by
    rw [Int64.toInt_add, e1, e4]
    exact Int.bmod_eq_of_le (by omega) (by omega)
  have e3 : (((v - ((Int32.ofInt w).toInt64)) + (Int64.ofNat 10000)) / (Int64.ofNat 10000)).toInt = (v.toInt - w + 10000) / 10000 := by
    rw [Int64.toInt_div, e2, e4, Int.tdiv_eq_ediv_of_nonneg (by omega)]
    exact Int.bmod_eq_of_le (by omega) (by omega)
  have e5 : (((v - ((Int32.ofInt w).toInt64)) + (Int64.ofNat 10000)) / (Int64.ofNat 10000) * (Int64.ofNat 10000)).toInt = (v.toInt - w + 10000) / 10000 * 10000 := by
    rw [Int64.toInt_mul, e3, e4]
    exact Int.bmod_eq_of_le (by omega) (by omega)
  have e6 : (((v - ((Int32.ofInt w).toInt64)) + (Int64.ofNat 10000)) - ((v - ((Int32.ofInt w).toInt64)) + (Int64.ofNat 10000)) / (Int64.ofNat 10000) * (Int64.ofNat 10000)).toInt = v.toInt - w + 10000 - (v.toInt - w + 10000) / 10000 * 10000 := by
    rw [Int64.toInt_sub, e2, e5]
    exact Int.bmod_eq_of_le (by omega) (by omega)
  rw [Int64.toInt_toInt32, e6, Int.bmod_eq_of_le (by omega) (by omega)]
  omega
theorem me_shownx {zu : Int} (hS : ab_Sh sx_sk h) (hu0 : 0 ≤ zu) (hu1 : zu < 60) (hs : mi_a h 119 zu.toNat = 1 ∨ mi_a h 119 zu.toNat = 2 ∨ mi_a h 119 zu.toNat = 8) (hl : mi_a h 119 zu.toNat = 8 → (0 ≤ mi_a h 120 zu.toNat ∧ mi_a h 120 zu.toNat < 20) ∧ 0 ≤ (mx_b h 118 (mi_a h 120 zu.toNat).toNat).toInt ∧ (mx_b h 118 (mi_a h 120 zu.toNat).toNat).toInt < 1073741824 ∧ 0 ≤ mi_a h 117 (mi_a h 120 zu.toNat).toNat) (hn : mi_a h 119 zu.toNat ≠ 8 → 0 ≤ mi_f h 14033 ∧ mi_f h 14033 < 100) (h1v : mi_a h 119 zu.toNat = 1 → 0 ≤ (mx_b h 162 (mi_f h 14033).toNat).toInt ∧ (mx_b h 162 (mi_f h 14033).toNat).toInt ≤ 9999 ∧ 0 ≤ mi_a h 120 zu.toNat ∧ mi_a h 120 zu.toNat ≤ 9) (h2v : mi_a h 119 zu.toNat = 2 → 0 < (mx_b h 162 (mi_f h 14033).toNat).toInt ∧ (mx_b h 162 (mi_f h 14033).toNat).toInt < 1073741824) (i0 : 0 ≤ mi_f h 14036) (i1 : mi_f h 14036 ≤ 100000) (hR : oR h x) : me_E (d + 4) 217 0 [some (.inr (.inr 109)), some (.inl zu), none, none, none, none, none] [] h (fun w h' => w = none ∧ ab_Sh sx_sk h' ∧ ab_Fr wr_sh h h' ∧ mi_f h' 14033 = (if mi_a h 119 zu.toNat = 8 then mi_f h 14033 else mi_f h 14033 + 1) ∧ oR h' (x.bind (otk (tkw (tq_L h) (mi_a h 119 zu.toNat) (mi_a h 120 zu.toNat) (mx_b h 162 (mi_f h 14033).toNat).toInt)))) := by
  have ou : mi_in zu := ⟨by omega, by omega⟩
  have hnx : mi_a h 119 zu.toNat ≠ 8 → (Int32.ofInt (mi_f h 14033) + Int32.ofInt ((1 : Int))).toInt = mi_f h 14033 + 1 := fun e => by
    have := hn e
    rw [← Int32.ofInt_add, mi_ti ⟨by omega, by omega⟩]
  refine mt_shA (d := d + 3) hS ou ?_ ?_ ?_ ?_
  · intro b c1 c2
    have hn' := hn c1
    have s1 : mi_a h 119 zu.toNat = 1 := by omega
    obtain ⟨v0, v1, w0, w1⟩ := h1v s1
    refine ⟨by omega, fun h1 g1 g2 g3 => ?_⟩
    rw [sh_val v0 v1 w0 w1]
    refine (me_numx (d := d + 1) ou (Int.emod_nonneg _ (by decide)) (by have := Int.emod_lt_of_pos ((mx_b h 162 (mi_f h 14033).toNat).toInt - mi_a h 120 zu.toNat + 10000) (show (0 : Int) < 10000 by decide); omega) g1 (by rw [me_f (c := 14036) g3 hS rfl rfl]; exact i0) (by rw [me_f (c := 14036) g3 hS rfl rfl]; exact i1) (oR_fr hR g3 hS rfl)).imp (fun w h' hq => ⟨hq.1, hq.2.1, (g3.wide (fun c hc => ab_swr_ok (by decide) hc)).trans (hq.2.2.1.wide (fun c hc => ab_swr_ok (by decide) hc)), ?_, ?_⟩)
    · rw [if_neg c1, me_f (c := 14033) hq.2.2.1 g1 rfl rfl, g2, hnx c1]
    · unfold tkw
      rw [if_neg c1, if_neg c2]
      exact hq.2.2.2
  · intro b c1 c2
    have hn' := hn c1
    obtain ⟨v0, v1⟩ := h2v c2
    refine ⟨by omega, fun h1 g1 g2 g3 => ⟨_, me_letx (d := d) g1 (by rw [me_f (c := 14036) g3 hS rfl rfl]; exact i0) (by rw [me_f (c := 14036) g3 hS rfl rfl]; exact i1) v0 v1 (oR_fr hR g3 hS rfl), ?_⟩⟩
    intro w h2 hw hq
    obtain ⟨rfl, q1, q2, q3⟩ := hq
    refine mt_shJ (d := d + 3) q1 ou ?_
    intro h3 r1 r2
    have e := me_nil r2
    subst e
    refine ⟨rfl, r1, (g3.wide (fun c hc => ab_swr_ok (by decide) hc)).trans (q2.wide (fun c hc => ab_swr_ok (by decide) hc)), ?_, ?_⟩
    · rw [if_neg c1, me_f (c := 14033) q2 g1 rfl rfl, g2, hnx c1]
    · unfold tkw
      rw [if_neg c1, if_pos c2]
      exact q3
  · intro c1 c2
    obtain ⟨hl1, hl2, hl3, hl4⟩ := hl c1
    have k0 : (mx_b h 118 (mi_a h 120 zu.toNat).toNat).toInt = 0 := tq_z.mp (lg_cmp0 c2)
    have eL : tq_L h (mi_a h 120 zu.toNat).toNat = -(mi_a h 117 (mi_a h 120 zu.toNat).toNat) := by
      unfold tq_L
      rw [if_pos k0]
    refine ⟨by omega, fun h1 g1 g2 => ?_⟩
    have e := me_nil g2
    subst e
    refine ⟨_, me_bex (d := d + 1) g1 (mi_inT _) i0 i1 hR, ?_⟩
    intro w h2 hw hq
    obtain ⟨rfl, q1, q2, q3⟩ := hq
    refine mt_shG (d := d + 3) q1 ou (mi_inT _) ?_
    refine ⟨by omega, fun h3 r1 r2 => ?_⟩
    have e := me_nil r2
    subst e
    have f117 : mi_a h3 117 (mi_a h1 120 zu.toNat).toNat = mi_a h1 117 (mi_a h1 120 zu.toNat).toNat := me_a (k := 117) q2 g1 rfl rfl
    rw [f117]
    refine ⟨_, me_wrx r1 (mi_inT _) q3, ?_⟩
    intro w h4 hw4 hq4
    obtain ⟨rfl, t1, t2, t3⟩ := hq4
    refine mt_shH (d := d + 3) t1 ou (mi_inT _) ?_
    intro h5 u1 u2
    have e := me_nil u2
    subst e
    refine ⟨rfl, u1, (q2.wide (fun c hc => ab_swr_ok (by decide) hc)).trans (t2.wide (fun c hc => ab_swr_ok (by decide) hc)), ?_, ?_⟩
    · rw [if_pos c1, me_f (c := 14033) t2 r1 rfl rfl, me_f (c := 14033) q2 g1 rfl rfl]
    · unfold tkw
      rw [if_pos c1, eL, if_neg (by omega), Int.neg_neg]
      have eo : (x.bind (ob (mi_a h1 117 (mi_a h1 120 zu.toNat).toNat))).bind (owx (mi_a h1 117 (mi_a h1 120 zu.toNat).toNat)) = x.bind (otk [mi_a h1 117 (mi_a h1 120 zu.toNat).toNat]) := by
        rw [← onil (x := (x.bind _).bind _), obind]
        cases x with
        | none => rfl
        | some o => rfl
      rw [eo] at t3
      exact t3
  · intro c1 c2
    obtain ⟨hl1, hl2, hl3, hl4⟩ := hl c1
    have k0 : (mx_b h 118 (mi_a h 120 zu.toNat).toNat).toInt ≠ 0 := fun q => gx_cmpn c2 (tq_z.mpr q)
    have eL : tq_L h (mi_a h 120 zu.toNat).toNat = (mx_b h 118 (mi_a h 120 zu.toNat).toNat).toInt := by
      unfold tq_L
      rw [if_neg k0]
    refine ⟨by omega, fun h1 g1 g2 => ?_⟩
    have e := me_nil g2
    subst e
    refine ⟨_, me_letx (d := d) g1 i0 i1 (by omega) hl3 hR, ?_⟩
    intro w h2 hw hq
    obtain ⟨rfl, q1, q2, q3⟩ := hq
    refine mt_shI (d := d + 3) q1 ou (mi_inT _) ?_
    intro h3 r1 r2
    have e := me_nil r2
    subst e
    refine ⟨rfl, r1, q2.wide (fun c hc => ab_swr_ok (by decide) hc), ?_, ?_⟩
    · rw [if_pos c1, me_f (c := 14033) q2 g1 rfl rfl]
    · unfold tkw
      rw [if_pos c1, eL, if_pos (by omega)]
      exact q3
end SHX
