/-! what may follow, purely -/
abbrev sp_F : Type := Nat → Int64
/-- what a part's rest begins with, where b is behind -/
def sk_r (X : sp_X) (b : Int64) : List sp_P → Int64
  | [] => b
  | p :: r => if sp_e X p then sp_s X p ||| sk_r X b r else sp_s X p
/-- what follows a part's form in it -/
def sk_i (X : sp_X) (b : Int64) (p : sp_P) (r : List sp_P) : Int64 := if p.2.2.1 = 1 then sk_r X b r ||| sp_s X p else sk_r X b r
/-- what an alternative gives to form i -/
def sk_c (X : sp_X) (b : Int64) (i : Nat) : List sp_P → Int64
  | [] => 0
  | p :: r => (if p.1 = i then sk_i X b p r else 0) ||| sk_c X b i r
def sk_a (X : sp_X) (f : Nat) (us : List sp_P) (W : sp_F) : sp_F := fun i => W i ||| sk_c X (W f) i us
def sk_f (X : sp_X) (f : Nat) : List (List sp_P) → sp_F → sp_F
  | [], W => W
  | us :: as, W => sk_f X f as (sk_a X f us W)
def sk_p (X : sp_X) (G : sg_G) : Nat → Nat → sp_F → sp_F
  | 0, _, W => W
  | c + 1, s, W => sk_p X G c (s + 1) (sk_f X s (G s) W)
def tl (x y : Int64) : Prop := ∀ b, tb x b = true → tb y b = true
theorem tl_refl (x : Int64) : tl x x := fun _ => id
theorem tl_tr {x y z : Int64} (h : tl x y) (h' : tl y z) : tl x z := fun b q => h' b (h b q)
theorem tl_or {x y z : Int64} (h : tl x z) (h' : tl y z) : tl (x ||| y) z := fun b q => by
  rw [tb_or, Bool.or_eq_true] at q
  rcases q with q | q
  · exact h b q
  · exact h' b q
theorem tl_l (x y : Int64) : tl x (x ||| y) := fun b q => by rw [tb_or, q]; rfl
theorem tl_r (x y : Int64) : tl y (x ||| y) := fun b q => by rw [tb_or, q, Bool.or_true]
theorem tl_0 (x : Int64) : tl 0 x := fun b q => by rw [tb_0] at q; exact absurd q (by decide)
theorem tl_anti {x y : Int64} (h : tl x y) (h' : tl y x) : x = y := tb_ext (fun b => by
  have c1 := h b
  have c2 := h' b
  cases k1 : tb x b <;> cases k2 : tb y b
  · rfl
  · rw [k1, k2] at c2; exact absurd (c2 rfl) (by decide)
  · rw [k1, k2] at c1; exact absurd (c1 rfl) (by decide)
  · rfl)
theorem tl_or2 {x y x' y' : Int64} (h : tl x x') (h' : tl y y') : tl (x ||| y) (x' ||| y') := tl_or (tl_tr h (tl_l _ _)) (tl_tr h' (tl_r _ _))
section SKP
variable {X : sp_X} {n : Nat} {G : sg_G} {W W' Y : sp_F}
theorem sk_r_m {b b' : Int64} (h : tl b b') : ∀ us, tl (sk_r X b us) (sk_r X b' us) := by
  intro us
  induction us with
  | nil => exact h
  | cons p r ih =>
    unfold sk_r
    split
    · exact tl_or2 (tl_refl _) ih
    · exact tl_refl _
theorem sk_i_m {b b' : Int64} (h : tl b b') (p : sp_P) (r : List sp_P) : tl (sk_i X b p r) (sk_i X b' p r) := by
  unfold sk_i
  split
  · exact tl_or2 (sk_r_m h r) (tl_refl _)
  · exact sk_r_m h r
theorem sk_c_m {b b' : Int64} {i : Nat} (h : tl b b') : ∀ us, tl (sk_c X b i us) (sk_c X b' i us) := by
  intro us
  induction us with
  | nil => exact tl_refl _
  | cons p r ih =>
    unfold sk_c
    refine tl_or2 ?_ ih
    split
    · exact sk_i_m h p r
    · exact tl_refl _
theorem sk_r_b {b b' : Int64} {k : Nat} (h : tb b k = tb b' k) : ∀ us, tb (sk_r X b us) k = tb (sk_r X b' us) k := by
  intro us
  induction us with
  | nil => exact h
  | cons p r ih =>
    unfold sk_r
    split
    · rw [tb_or, tb_or, ih]
    · rfl
theorem sk_c_b {b b' : Int64} {k i : Nat} (h : tb b k = tb b' k) : ∀ us, tb (sk_c X b i us) k = tb (sk_c X b' i us) k := by
  intro us
  induction us with
  | nil => rfl
  | cons p r ih =>
    have e := sk_r_b (X := X) h r
    unfold sk_c sk_i
    rw [tb_or, tb_or, ih]
    congr 1
    split
    · split
      · rw [tb_or, tb_or, e]
      · exact e
    · rfl
/- order -/
def sw_le (n : Nat) (W W' : sp_F) : Prop := ∀ i : Nat, i < n → tl (W i) (W' i)
def sw_eq (n : Nat) (W W' : sp_F) : Prop := ∀ i : Nat, i < n → W i = W' i
/-- a solution -/
def sw_sol (X : sp_X) (n : Nat) (G : sg_G) (W : sp_F) : Prop := ∀ f : Nat, f < n → ∀ us ∈ G f, ∀ i : Nat, i < n → tl (sk_c X (W f) i us) (W i)
theorem sw_le_tr {W'' : sp_F} (h : sw_le n W W') (h' : sw_le n W' W'') : sw_le n W W'' := fun i hi => tl_tr (h i hi) (h' i hi)
theorem sk_a_le {f : Nat} {us : List sp_P} : sw_le n W (sk_a X f us W) := fun i _ => tl_l _ _
theorem sk_f_le {f : Nat} : ∀ (as : List (List sp_P)) (W : sp_F), sw_le n W (sk_f X f as W) := by
  intro as
  induction as with
  | nil => intro W i _; exact tl_refl _
  | cons us as ih => intro W; exact sw_le_tr sk_a_le (ih _)
theorem sk_p_le : ∀ (c s : Nat) (W : sp_F), sw_le n W (sk_p X G c s W) := by
  intro c
  induction c with
  | zero => intro s W i _; exact tl_refl _
  | succ c ih => intro s W; exact sw_le_tr (sk_f_le _ _) (ih _ _)
/- a bit -/
def sw_b (n k : Nat) (W W' : sp_F) : Prop := ∀ i : Nat, i < n → tb (W i) k = tb (W' i) k
theorem sk_a_b {k f : Nat} {us : List sp_P} (hf : f < n) (h : sw_b n k W W') : sw_b n k (sk_a X f us W) (sk_a X f us W') := fun i hi => by
  show tb (W i ||| sk_c X (W f) i us) k = tb (W' i ||| sk_c X (W' f) i us) k
  rw [tb_or, tb_or, h i hi, sk_c_b (h f hf)]
theorem sk_f_b {k f : Nat} (hf : f < n) : ∀ (as : List (List sp_P)) (W W' : sp_F), sw_b n k W W' → sw_b n k (sk_f X f as W) (sk_f X f as W') := by
  intro as
  induction as with
  | nil => intro W W' h; exact h
  | cons us as ih => intro W W' h; exact ih _ _ (sk_a_b hf h)
theorem sk_p_b {k : Nat} : ∀ (c s : Nat) (W W' : sp_F), s + c ≤ n → sw_b n k W W' → sw_b n k (sk_p X G c s W) (sk_p X G c s W') := by
  intro c
  induction c with
  | zero => intro s W W' _ h; exact h
  | succ c ih => intro s W W' hs h; exact ih _ _ _ (by omega) (sk_f_b (by omega) _ _ _ h)
/- least -/
theorem sk_a_least {f : Nat} {us : List sp_P} (hf : f < n) (hus : us ∈ G f) (hY : sw_sol X n G Y) (h : sw_le n W Y) : sw_le n (sk_a X f us W) Y := fun i hi => tl_or (h i hi) (tl_tr (sk_c_m (h f hf) us) (hY f hf us hus i hi))
theorem sk_f_least {f : Nat} (hf : f < n) (hY : sw_sol X n G Y) : ∀ (as : List (List sp_P)) (W : sp_F), (∀ us ∈ as, us ∈ G f) → sw_le n W Y → sw_le n (sk_f X f as W) Y := by
  intro as
  induction as with
  | nil => intro W _ h; exact h
  | cons us as ih => intro W ho h; exact ih _ (fun u hu => ho u (List.mem_cons_of_mem _ hu)) (sk_a_least hf (ho us List.mem_cons_self) hY h)
theorem sk_p_least (hY : sw_sol X n G Y) : ∀ (c s : Nat) (W : sp_F), s + c ≤ n → sw_le n W Y → sw_le n (sk_p X G c s W) Y := by
  intro c
  induction c with
  | zero => intro s W _ h; exact h
  | succ c ih => intro s W hs h; exact ih _ _ (by omega) (sk_f_least (by omega) hY _ _ (fun _ => id) h)
/- a turn that changes nothing ends at a solution -/
theorem sk_f_sol {f : Nat} (hf : f < n) : ∀ (as : List (List sp_P)) (W : sp_F), sw_eq n (sk_f X f as W) W → ∀ us ∈ as, ∀ i : Nat, i < n → tl (sk_c X (W f) i us) (W i) := by
  intro as
  induction as with
  | nil => intro W _ us hu; cases hu
  | cons u as ih =>
    intro W he us hu i hi
    have l1 : sw_le n (sk_a X f u W) W := fun j hj => by
      have := sk_f_le (X := X) (n := n) (f := f) as (sk_a X f u W) j hj
      have e : sk_f X f as (sk_a X f u W) j = W j := he j hj
      rw [e] at this
      exact this
    have e1 : sw_eq n (sk_a X f u W) W := fun j hj => tl_anti (l1 j hj) (sk_a_le j hj)
    rcases List.mem_cons.mp hu with rfl | hu
    · exact tl_tr (tl_r _ _) (l1 i hi)
    · have e2 : sw_eq n (sk_f X f as (sk_a X f u W)) (sk_a X f u W) := fun j hj => (he j hj).trans (e1 j hj).symm
      have := ih _ e2 us hu i hi
      rw [e1 i hi, e1 f hf] at this
      exact this
theorem sk_p_sol : ∀ (c s : Nat) (W : sp_F), s + c ≤ n → sw_eq n (sk_p X G c s W) W → ∀ f : Nat, s ≤ f → f < s + c → ∀ us ∈ G f, ∀ i : Nat, i < n → tl (sk_c X (W f) i us) (W i) := by
  intro c
  induction c with
  | zero => intro s W _ _ f h1 h2; omega
  | succ c ih =>
    intro s W hs he f h1 h2 us hu i hi
    have l1 : sw_le n (sk_f X s (G s) W) W := fun j hj => by
      have := sk_p_le (X := X) (n := n) (G := G) c (s + 1) (sk_f X s (G s) W) j hj
      have e : sk_p X G c (s + 1) (sk_f X s (G s) W) j = W j := he j hj
      rw [e] at this
      exact this
    have e1 : sw_eq n (sk_f X s (G s) W) W := fun j hj => tl_anti (l1 j hj) (sk_f_le _ _ j hj)
    by_cases cs : f = s
    · subst cs
      exact sk_f_sol (by omega) _ _ e1 us hu i hi
    · have e2 : sw_eq n (sk_p X G c (s + 1) (sk_f X s (G s) W)) (sk_f X s (G s) W) := fun j hj => (he j hj).trans (e1 j hj).symm
      have := ih _ _ (by omega) e2 f (by omega) (by omega) us hu i hi
      rw [e1 i hi, e1 f (by omega)] at this
      exact this
def sk_k (X : sp_X) (G : sg_G) (n : Nat) (W0 : sp_F) : Nat → sp_F
  | 0 => W0
  | k + 1 => sk_p X G n 0 (sk_k X G n W0 k)
theorem sk_k_stop {W0 : sp_F} {k : Nat} (hk : n ≤ k) : sw_eq n (sk_k X G n W0 (k + 1)) (sk_k X G n W0 k) := by
  intro F hF
  refine tb_ext (fun b => ?_)
  have e := ch_stop (n := n) (k0 := 0) (A := fun k F => if tb (sk_k X G n W0 k F) b = true then 0 else 1) (fun k F hF => by
    have this : tb (sk_k X G n W0 k F) b = true → tb (sk_k X G n W0 (k + 1) F) b = true := sk_p_le (X := X) (n := n) (G := G) n 0 (sk_k X G n W0 k) F hF b
    show (if tb (sk_k X G n W0 (k + 1) F) b = true then (0 : Int) else 1) ≤ if tb (sk_k X G n W0 k F) b = true then 0 else 1
    by_cases c : tb (sk_k X G n W0 k F) b = true
    · rw [if_pos c, if_pos (this c)]; decide
    · rw [if_neg c]; split <;> decide) (fun k s _ h F hF => by
    have hv : ∀ F, F < n → min (if tb (sk_k X G n W0 (k + 1) F) b = true then (0 : Int) else 1) s = min (if tb (sk_k X G n W0 k F) b = true then 0 else 1) s := h
    show min (if tb (sk_k X G n W0 (k + 2) F) b = true then (0 : Int) else 1) s = min (if tb (sk_k X G n W0 (k + 1) F) b = true then 0 else 1) s
    by_cases c : s ≤ 0
    · split <;> split <;> omega
    · have : tb (sk_k X G n W0 (k + 2) F) b = tb (sk_k X G n W0 (k + 1) F) b := sk_p_b n 0 (sk_k X G n W0 (k + 1)) (sk_k X G n W0 k) (by omega) (fun F' hF' => by
        have q := hv F' hF'
        cases c1 : tb (sk_k X G n W0 (k + 1) F') b <;> cases c2 : tb (sk_k X G n W0 k F') b
        · rfl
        · rw [c1, c2] at q; simp at q; exfalso; omega
        · rw [c1, c2] at q; simp at q; exfalso; omega
        · rfl) F hF
      rw [this]) (k := k) (F := F) (by omega) hF
  have e : (if tb (sk_k X G n W0 (k + 1) F) b = true then (0 : Int) else 1) = if tb (sk_k X G n W0 k F) b = true then 0 else 1 := e
  cases c1 : tb (sk_k X G n W0 (k + 1) F) b <;> cases c2 : tb (sk_k X G n W0 k F) b
  · rfl
  · rw [c1, c2] at e; exact absurd e (by decide)
  · rw [c1, c2] at e; exact absurd e (by decide)
  · rfl
theorem sk_k_least {W0 : sp_F} (hY : sw_sol X n G Y) (h0 : sw_le n W0 Y) : ∀ k, sw_le n (sk_k X G n W0 k) Y := by
  intro k
  induction k with
  | zero => exact h0
  | succ k ih => exact sk_p_least hY n 0 _ (by omega) ih
theorem sk_k_ge {W0 : sp_F} : ∀ k, sw_le n W0 (sk_k X G n W0 k) := by
  intro k
  induction k with
  | zero => exact fun i _ => tl_refl _
  | succ k ih => exact sw_le_tr ih (sk_p_le _ _ _)
theorem sk_sol {W : sp_F} (h : sw_eq n (sk_p X G n 0 W) W) : sw_sol X n G W := fun f hf us hu i hi => sk_p_sol n 0 W (by omega) h f (by omega) (by omega) us hu i hi
end SKP
