/-! THE WALK THAT GROWS, purely and exactly: entries as in wk_E; x the chance, fu the fuel, T the nodes in their order (kind, value, level), dp how many are open, ps the pairs that are open (begin, middle; the last one first) -/
abbrev gm_S : Type := Int64 × Int × List (Int × Int × Int) × Int × List (Nat × Nat)
def gm_X (s : gm_S) : Int64 := s.1
def gm_F (s : gm_S) : Int := s.2.1
def gm_T (s : gm_S) : List (Int × Int × Int) := s.2.2.1
def gm_D (s : gm_S) : Int := s.2.2.2.1
def gm_P (s : gm_S) : List (Nat × Nat) := s.2.2.2.2
section GM0
variable (x : Int64) (f d : Int) (T : List (Int × Int × Int)) (P : List (Nat × Nat))
theorem gm_X_mk : gm_X (x, f, T, d, P) = x := rfl
theorem gm_F_mk : gm_F (x, f, T, d, P) = f := rfl
theorem gm_T_mk : gm_T (x, f, T, d, P) = T := rfl
theorem gm_D_mk : gm_D (x, f, T, d, P) = d := rfl
theorem gm_P_mk : gm_P (x, f, T, d, P) = P := rfl
end GM0
abbrev gm_C : Type := List wk_E × gm_S
def gm_x (x : Int64) : Int64 := x * (Int64.ofNat 6364136223846793005) + (Int64.ofNat 1442695040888963407)
/-- what is drawn below n, where x is the chance after the draw -/
def gm_v (x : Int64) (n : Int) : Int := (((x.toUInt64 >>> ((Int32.ofInt (33 : Int)).toInt64.toUInt64 &&& Int64.toUInt64 63)).toInt64) - ((x.toUInt64 >>> ((Int32.ofInt (33 : Int)).toInt64.toUInt64 &&& Int64.toUInt64 63)).toInt64) / ((Int32.ofInt n).toInt64) * ((Int32.ofInt n).toInt64)).toInt32.toInt
/-- the letters of a name: how many more, the place, the chance, those so far -/
def gm_ls : Nat → Nat → Int64 → Int → Int × Int64
  | 0, _, x, v => (v, x)
  | m + 1, k, x, v => gm_ls m (k + 1) (gm_x x) (v + (1 + gm_v (gm_x x) 3) * 32 ^ k)
/-- z behind it as long as it is a keyword -/
def gm_zs (kw : Int → Bool) : Nat → Nat → Int → Int
  | 0, _, v => v
  | m + 1, k, v => if kw v then gm_zs kw m (k + 1) (v + 26 * 32 ^ k) else v
def gm_nm (kw : Int → Bool) (x : Int64) : Int × Int64 :=
  let n := (1 + gm_v (gm_x x) 3).toNat
  let p := gm_ls n 0 (gm_x x) 0
  (gm_zs kw 7 n p.1, p.2)
/-- a node comes -/
def gm_c (k v : Int) (s : gm_S) : Option gm_S := if 100 ≤ (gm_T s).length then none else some (gm_X s, gm_F s, gm_T s ++ [(k + 10 * ((gm_T s).length : Int), v, gm_D s)], gm_D s, gm_P s)
def gm_d (s : gm_S) : gm_S := (gm_X s, gm_F s, gm_T s, gm_D s + 1, gm_P s)
def gm_en (g : wk_g) (i : Int) (r : List wk_E) (s : gm_S) : Option gm_C :=
  if 12 ≤ wk_ul r then none else (gm_c 1 i (gm_X s, gm_F s - 1, gm_T s, gm_D s, gm_P s)).map (fun t => ((1, g 114 i.toNat, 0) :: (2, 1, 0) :: r, gm_d t))
def gm_sg (g : wk_g) (kw : Int → Bool) (u : Int) (r : List wk_E) (s : gm_S) : Option gm_C :=
  if g 119 u.toNat = 9 then gm_en g (g 115 (g 120 u.toNat).toNat) r s
  else if g 119 u.toNat = 10 then some ((1, g 120 u.toNat, 0) :: r, s)
  else if g 119 u.toNat = 1 then (gm_c 2 (gm_v (gm_x (gm_X s)) 10000) (gm_x (gm_X s), gm_F s, gm_T s, gm_D s, gm_P s)).map (fun t => (r, t))
  else if g 119 u.toNat = 2 then (gm_c 3 (gm_nm kw (gm_X s)).1 ((gm_nm kw (gm_X s)).2, gm_F s, gm_T s, gm_D s, gm_P s)).map (fun t => (r, t))
  else some (r, s)
/-- the alternative of least height -/
def gm_lo (g : wk_g) : Nat → Int → Int → Int → Int → Int
  | 0, _, _, b, _ => b
  | m + 1, a, n, b, hi => gm_lo g m (g 128 a.toNat) (n + 1) (if g 143 a.toNat < hi then n else b) (if g 143 a.toNat < hi then g 143 a.toNat else hi)
/-- drawn below n, but 0 without fuel -/
def gm_n (n : Int) (s : gm_S) : Int := if gm_F s < 0 then 0 else gm_v (gm_x (gm_X s)) n
def gm_w (g : wk_g) (f : Int) (s : gm_S) : Int := if gm_F s < 0 then gm_lo g (g 130 f.toNat).toNat (g 129 f.toNat) 0 0 1001 else gm_v (gm_x (gm_X s)) (g 130 f.toNat)
def gm_y (s : gm_S) : gm_S := (if gm_F s < 0 then gm_X s else gm_x (gm_X s), gm_F s, gm_T s, gm_D s, gm_P s)
def gm_op (o : Int) (s : gm_S) : gm_S := if o = 1 then (gm_X s, gm_F s, gm_T s, gm_D s, ((gm_T s).length, 0) :: gm_P s) else s
def gm_mid (s : gm_S) : gm_S := (gm_X s, gm_F s, gm_T s, gm_D s, match gm_P s with | [] => [] | p :: q => (p.1, (gm_T s).length) :: q)
/-- the nodes from b on come ahead of those from a on -/
def gm_rot (a b : Nat) (T : List (Int × Int × Int)) : List (Int × Int × Int) := if a ≤ b ∧ b ≤ T.length then T.take a ++ T.drop b ++ (T.take b).drop a else T
def gm_tu (s : gm_S) : gm_S := match gm_P s with | [] => s | p :: q => (gm_X s, gm_F s, gm_rot p.1 p.2 (gm_T s), gm_D s, q)
def gm_st (g : wk_g) (kw : Int → Bool) (e : wk_E) (r : List wk_E) (s : gm_S) : Option gm_C :=
  if e.1 = 0 then
    (if g 122 e.2.1.toNat = 1 then (gm_c 5 (gm_n 3 s) (gm_y (gm_op e.2.2 s))).map (fun t => ((5, e.2.1, gm_n 3 s) :: (2, 0, 0) :: r, gm_d t))
     else if g 122 e.2.1.toNat = 2 then (gm_c 6 (gm_n 2 s) (gm_y (gm_op e.2.2 s))).bind (fun t => if 0 < gm_n 2 s then gm_sg g kw e.2.1 ((2, 0, 0) :: r) (gm_d t) else some ((2, 0, 0) :: r, gm_d t))
     else gm_sg g kw e.2.1 r (gm_op e.2.2 s))
  else if e.1 = 1 then
    (if 1 < g 130 e.2.1.toNat then (gm_c 4 (gm_w g e.2.1 s) (gm_y s)).map (fun t => (wk_it g 61 (g 126 (wk_alt g (gm_w g e.2.1 s).toNat (g 129 e.2.1.toNat)).toNat) ++ (2, 0, 0) :: r, gm_d t))
     else some (wk_it g 61 (g 126 (g 129 e.2.1.toNat).toNat) ++ r, s))
  else if e.1 = 5 then (if 0 < e.2.2 then gm_sg g kw e.2.1 ((5, e.2.1, e.2.2 - 1) :: r) s else some (r, s))
  else if e.1 = 2 then some (r, (gm_X s, gm_F s, gm_T s, gm_D s - 1, gm_P s))
  else if e.1 = 3 then some (r, gm_mid s)
  else some (r, gm_tu s)
/-- n turns lead from c to d; n turns are well, and the next one passes a limit -/
def gm_to (g : wk_g) (kw : Int → Bool) : Nat → gm_C → gm_C → Prop
  | 0, c, d => c = d
  | n + 1, c, d => ∃ e r c1, c.1 = e :: r ∧ gm_st g kw e r c.2 = some c1 ∧ gm_to g kw n c1 d
def gm_no (g : wk_g) (kw : Int → Bool) : Nat → gm_C → Prop
  | 0, c => ∃ e r, c.1 = e :: r ∧ gm_st g kw e r c.2 = none
  | n + 1, c => ∃ e r c1, c.1 = e :: r ∧ gm_st g kw e r c.2 = some c1 ∧ gm_no g kw n c1
section GM1
variable {g : wk_g} {kw : Int → Bool}
theorem gm_app {b d : gm_C} {m : Nat} (h2 : gm_to g kw m b d) : ∀ (n : Nat) (a : gm_C), gm_to g kw n a b → gm_to g kw (n + m) a d := by
  intro n
  induction n with
  | zero => intro a h; have h : a = b := h; rw [h, Nat.zero_add]; exact h2
  | succ n ih =>
    intro a h
    obtain ⟨e, r, c1, h3, h4, h5⟩ := h
    rw [Nat.succ_add]
    exact ⟨e, r, c1, h3, h4, ih c1 h5⟩
theorem gm_appn {b : gm_C} {m : Nat} (h2 : gm_no g kw m b) : ∀ (n : Nat) (a : gm_C), gm_to g kw n a b → gm_no g kw (n + m) a := by
  intro n
  induction n with
  | zero => intro a h; have h : a = b := h; rw [h, Nat.zero_add]; exact h2
  | succ n ih =>
    intro a h
    obtain ⟨e, r, c1, h3, h4, h5⟩ := h
    rw [Nat.succ_add]
    exact ⟨e, r, c1, h3, h4, ih c1 h5⟩
theorem gm_one {e : wk_E} {r : List wk_E} {s : gm_S} {c : gm_C} (h : gm_st g kw e r s = some c) : gm_to g kw 1 (e :: r, s) c := ⟨e, r, c, rfl, h, rfl⟩
theorem gm_none {e : wk_E} {r : List wk_E} {s : gm_S} (h : gm_st g kw e r s = none) : gm_no g kw 0 (e :: r, s) := ⟨e, r, rfl, h⟩
/-- there is one way only -/
theorem gm_det {b d : gm_C} : ∀ (n m : Nat) (a : gm_C), gm_to g kw n a b → gm_to g kw m a d → n ≤ m → gm_to g kw (m - n) b d := by
  intro n
  induction n with
  | zero => intro m a h1 h2 _; have h1 : a = b := h1; rw [← h1]; exact h2
  | succ n ih =>
    intro m a h1 h2 h3
    obtain ⟨e, r, c1, k1, k2, k3⟩ := h1
    cases m with
    | zero => exact absurd h3 (by omega)
    | succ m =>
      obtain ⟨e', r', c1', l1, l2, l3⟩ := h2
      rw [k1] at l1
      injection l1 with l4 l5
      rw [← l4, ← l5, k2] at l2
      injection l2 with l6
      rw [← l6] at l3
      have := ih m c1 k3 l3 (by omega)
      rwa [show m + 1 - (n + 1) = m - n from by omega]
theorem gm_detn {b : gm_C} : ∀ (n m : Nat) (a : gm_C), gm_to g kw n a b → gm_no g kw m a → n ≤ m ∧ gm_no g kw (m - n) b := by
  intro n
  induction n with
  | zero => intro m a h1 h2; have h1 : a = b := h1; rw [← h1]; exact ⟨Nat.zero_le _, h2⟩
  | succ n ih =>
    intro m a h1 h2
    obtain ⟨e, r, c1, k1, k2, k3⟩ := h1
    cases m with
    | zero =>
      obtain ⟨e', r', l1, l2⟩ := h2
      rw [k1] at l1
      injection l1 with l4 l5
      rw [← l4, ← l5, k2] at l2
      cases l2
    | succ m =>
      obtain ⟨e', r', c1', l1, l2, l3⟩ := h2
      rw [k1] at l1
      injection l1 with l4 l5
      rw [← l4, ← l5, k2] at l2
      injection l2 with l6
      rw [← l6] at l3
      obtain ⟨i1, i2⟩ := ih m c1 k3 l3
      exact ⟨by omega, by rwa [show m + 1 - (n + 1) = m - n from by omega]⟩
end GM1
