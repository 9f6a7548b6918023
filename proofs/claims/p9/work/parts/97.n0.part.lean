/-! the class's Sets: parts -/
section LCN
variable {X : sp_X} {p : sp_P} {r : List sp_P} {a : List sp_P} {as : List (List sp_P)} {b : Int64} {i : Nat}
theorem sa_v_c : sa_v X (p :: r) = if sp_e X p then sa_v X r else 0 := rfl
theorem sa_s_c : sa_s X (p :: r) = if sp_e X p then sp_s X p ||| sa_s X r else sp_s X p := rfl
theorem sa_h_c : sa_h X (p :: r) = max (sp_h X p) (sa_h X r) := rfl
theorem sf_v_c : sf_v X (a :: as) = if sa_v X a ≠ 0 then 1 else sf_v X as := rfl
theorem sf_s_c : sf_s X (a :: as) = sa_s X a ||| sf_s X as := rfl
theorem sf_h_c : sf_h X (a :: as) = min (min 1000 (sa_h X a)) (sf_h X as) := rfl
theorem sf_v_n : sf_v X [] = 0 := rfl
theorem sf_h_n : sf_h X [] = 1000 := rfl
theorem sk_r_c : sk_r X b (p :: r) = if sp_e X p then sp_s X p ||| sk_r X b r else sp_s X p := rfl
theorem sk_c_c : sk_c X b i (p :: r) = (if p.1 = i then sk_i X b p r else 0) ||| sk_c X b i r := rfl
end LCN
def shl1 (z : Int) : Int64 := (Int64.ofNat 1) <<< ((Int32.ofInt z).toInt64 &&& 63)
def pb_v (s : Int) : Int := if 3 ≤ s ∧ s ≤ 7 then 1 else 0
def pb_s (s v : Int) : Int64 := if s = 1 then Int64.ofNat 2 else if s = 2 then Int64.ofNat 4 else if s = 8 then shl1 (3 + v) else Int64.ofNat 0
def cv_p (h : sm_H) (u : Int) : sp_P := (gf_v h u, if mi_a h 68 u.toNat = 9 then 1 else 0, if mi_a h 72 u.toNat = 0 then 0 else if mi_a h 72 u.toNat = 5 then 1 else 2, pb_v (mi_a h 68 u.toNat), pb_s (mi_a h 68 u.toNat) (mi_a h 69 u.toNat))
def cX (h : sm_H) : sp_X := (mi_a h 79, mx_b h 80, mi_a h 82)
def cv_row (h : sm_H) : Nat → Int → List Int
  | 0, _ => []
  | n + 1, u => if u = -1 then [] else u :: cv_row h n (mi_a h 71 u.toNat)
theorem cv_row_c {h : sm_H} {n : Nat} {u : Int} : cv_row h (n + 1) u = if u = -1 then [] else u :: cv_row h n (mi_a h 71 u.toNat) := rfl
/-- the parts' numbers are in their range -/
def cv_u (h : sm_H) (U : Int) : Prop := U ≤ 60 ∧ ∀ u : Int, 0 ≤ u → u < U → (mi_a h 71 u.toNat = -1 ∨ (u < mi_a h 71 u.toNat ∧ mi_a h 71 u.toNat < U)) ∧ (gf_v h u = -1 ∨ (0 ≤ gf_v h u ∧ gf_v h u < 70)) ∧ (mi_a h 68 u.toNat = 8 → 0 ≤ mi_a h 69 u.toNat ∧ mi_a h 69 u.toNat < 20)
section CVP
variable {d : Nat} {h h' hb : sm_H} {zu : Int}
theorem gf_fr {wr : List (Nat × Nat)} (hF : ab_Fr wr h h') (hS : ab_Sh sx_sk h) (hw : (ab_in wr 8704 || ab_in wr 8832) = false) {u : Int} : gf_v h' u = gf_v h u := by
  simp only [Bool.or_eq_false_iff] at hw
  unfold gf_v
  rw [me_a (k := 68) hF hS rfl hw.1, me_a (k := 69) hF hS rfl hw.2]
theorem cv_p_fr {wr : List (Nat × Nat)} (hF : ab_Fr wr h h') (hS : ab_Sh sx_sk h) (hw : (ab_in wr 8704 || ab_in wr 8832 || ab_in wr 9216) = false) : cv_p h' = cv_p h := by
  funext u
  have e := gf_fr (u := u) hF hS (by simp only [Bool.or_eq_false_iff] at hw ⊢; exact hw.1)
  simp only [Bool.or_eq_false_iff] at hw
  unfold cv_p
  rw [e, me_a (k := 68) hF hS rfl hw.1.1, me_a (k := 69) hF hS rfl hw.1.2, me_a (k := 72) hF hS rfl hw.2]
theorem cX_fr {wr : List (Nat × Nat)} (hF : ab_Fr wr h h') (hS : ab_Sh sx_sk h) (hw : (ab_in wr 10112 || ab_in wr 10240 || ab_in wr 10496) = false) : cX h' = cX h := by
  simp only [Bool.or_eq_false_iff] at hw
  unfold cX
  rw [show mi_a h' 79 = mi_a h 79 from funext (fun i => me_a (k := 79) hF hS rfl hw.1.1), show mx_b h' 80 = mx_b h 80 from funext (fun i => me_b (k := 80) hF hS rfl hw.1.2), show mi_a h' 82 = mi_a h 82 from funext (fun i => me_a (k := 82) hF hS rfl hw.2)]
theorem pb_v_01 (s : Int) : pb_v s = 0 ∨ pb_v s = 1 := by unfold pb_v; split <;> omega
theorem cv_v01 {X : sp_X} (h01 : sp_01 70 X) (hg : gf_v h zu = -1 ∨ (0 ≤ gf_v h zu ∧ gf_v h zu < 70)) : sp_v X (cv_p h zu) = 0 ∨ sp_v X (cv_p h zu) = 1 := by
  unfold sp_v
  by_cases c : 0 ≤ (cv_p h zu).1
  · rw [if_pos c]
    have c : 0 ≤ gf_v h zu := c
    exact h01 _ (by show (gf_v h zu).toNat < 70; omega)
  · rw [if_neg c]
    exact pb_v_01 _
def pc_W : List (Nat × Nat) := [(11392, 11393), (11520, 11521)]
theorem me_refreshPart (hS : ab_Sh sx_sk h) (u0 : 0 ≤ zu) (u1 : zu < 60) (hg : gf_v h zu = -1 ∨ (0 ≤ gf_v h zu ∧ gf_v h zu < 70)) (h8 : mi_a h 68 zu.toNat = 8 → 0 ≤ mi_a h 69 zu.toNat ∧ mi_a h 69 zu.toNat < 20) : me_E (d + 3) 70 0 [some (.inr (.inr 78)), some (.inl zu), none, none] [] h (fun w h' => w = none ∧ ab_Sh sx_sk h' ∧ ab_Fr pc_W h h' ∧ (∀ i, mi_a h' 89 i = if i = zu.toNat then sp_v (cX h) (cv_p h zu) else mi_a h 89 i) ∧ ∀ i, mx_b h' 90 i = if i = zu.toNat then sp_s (cX h) (cv_p h zu) else mx_b h 90 i) := by
  have ou : mi_in zu := ⟨by omega, by omega⟩
  refine mt_rqA hS ou (fun h1 g1 g2 => ?_)
  have e0 := me_nil g2
  subst e0
  refine ⟨_, me_gformIn (d := d + 1) hS u0 u1, fun w h2 oww hq => ?_⟩
  obtain ⟨rfl, rfl⟩ := hq
  have og : mi_in (gf_v h2 zu) := ⟨by omega, by omega⟩
  have os : mi_in (mi_a h2 68 zu.toNat) := mi_inT _
  /- a part with no form -/
  have none_ : gf_v h2 zu = -1 → ∀ h3, ab_Sh sx_sk h3 → (∀ i, mi_a h3 89 i = if i = zu.toNat then pb_v (mi_a h2 68 zu.toNat) else mi_a h2 89 i) → (∀ i, mx_b h3 90 i = if i = zu.toNat then Int64.ofNat 0 else mx_b h2 90 i) → ab_Fr pc_W h2 h3 → me_E (d + 3) 70 92 [some (.inr (.inr 78)), some (.inl zu), some (.inl (gf_v h2 zu)), some (.inl (mi_a h2 68 zu.toNat))] [] h3 (fun w h' => w = none ∧ ab_Sh sx_sk h' ∧ ab_Fr pc_W h2 h' ∧ (∀ i, mi_a h' 89 i = if i = zu.toNat then sp_v (cX h2) (cv_p h2 zu) else mi_a h2 89 i) ∧ ∀ i, mx_b h' 90 i = if i = zu.toNat then sp_s (cX h2) (cv_p h2 zu) else mx_b h2 90 i) := by
    intro hn h3 s1 s2 s3 s4
    have nn : ¬ 0 ≤ (cv_p h2 zu).1 := by show ¬ 0 ≤ gf_v h2 zu; omega
    have ev : sp_v (cX h2) (cv_p h2 zu) = pb_v (mi_a h2 68 zu.toNat) := by unfold sp_v; rw [if_neg nn]; rfl
    have es : sp_s (cX h2) (cv_p h2 zu) = pb_s (mi_a h2 68 zu.toNat) (mi_a h2 69 zu.toNat) := by unfold sp_s; rw [if_neg nn]; rfl
    rw [ev, es]
    have e69 : mi_a h3 69 zu.toNat = mi_a h2 69 zu.toNat := me_a (k := 69) s4 hS rfl rfl
    have e89 : ∀ h4, ab_Fr [(11520, 11521)] h3 h4 → ∀ i, mi_a h4 89 i = if i = zu.toNat then pb_v (mi_a h2 68 zu.toNat) else mi_a h2 89 i := fun h4 f4 i => by rw [me_a (k := 89) f4 s1 rfl rfl]; exact s2 i
    have fin : ∀ h4, ab_Sh sx_sk h4 → (∀ i, mx_b h4 90 i = if i = zu.toNat then pb_s (mi_a h2 68 zu.toNat) (mi_a h2 69 zu.toNat) else mx_b h3 90 i) → ab_Fr [(11520, 11521)] h3 h4 → ab_Fr pc_W h2 h4 ∧ (∀ i, mi_a h4 89 i = if i = zu.toNat then pb_v (mi_a h2 68 zu.toNat) else mi_a h2 89 i) ∧ ∀ i, mx_b h4 90 i = if i = zu.toNat then pb_s (mi_a h2 68 zu.toNat) (mi_a h2 69 zu.toNat) else mx_b h2 90 i := fun h4 t1 t2 t3 => by
      refine ⟨s4.trans (t3.wide (fun c hc => ab_swr_ok (by decide) hc)), e89 h4 t3, fun i => ?_⟩
      rw [t2 i, s3 i]
      by_cases ci : i = zu.toNat
      · rw [if_pos ci, if_pos ci]
      · rw [if_neg ci, if_neg ci, if_neg ci]
    refine mt_rqC s1 ou og os ?_ ?_ ?_ ?_ ?_ ?_ ?_ ?_ ?_ ?_
    · intro c1 c2 c3 h4 g1 g2
      have e0 := me_nil g2
      subst e0
      refine ⟨rfl, s1, s4, s2, fun i => ?_⟩
      rw [s3 i]
      unfold pb_s
      rw [if_neg c1, if_neg c2, if_neg c3]
    · intro c1 c2 c3 c4; exfalso; omega
    · intro c1 c2 c3 c4 c5; exfalso; omega
    · intro c1 c2 c3 c4 c5
      have := h8 c3
      rw [e69]
      refine ⟨by omega, fun h4 t1 t2 t3 => ⟨rfl, t1, fin h4 t1 (fun i => ?_) t3⟩⟩
      rw [t2 i]
      unfold pb_s
      rw [if_neg c1, if_neg c2, if_pos c3]
      rfl
    · intro c1 c2 c3; exfalso; omega
    · intro c1 c2 c3 c4; exfalso; omega
    · intro c1 c2 c3 c4
      refine ⟨by omega, fun h4 t1 t2 t3 => ⟨rfl, t1, fin h4 t1 (fun i => ?_) t3⟩⟩
      rw [t2 i]
      unfold pb_s
      rw [if_neg c1, if_pos c2]
      all_goals rfl
    · intro c1 c2; exfalso; omega
    · intro c1 c2 c3; exfalso; omega
    · intro c1 c2 c3
      refine ⟨by omega, fun h4 t1 t2 t3 => ⟨rfl, t1, fin h4 t1 (fun i => ?_) t3⟩⟩
      rw [t2 i]
      unfold pb_s
      rw [if_pos c1]
      all_goals rfl
  refine mt_rqB hS ou og ?_ ?_ ?_ ?_ ?_ ?_ ?_ ?_ ?_ ?_ ?_ ?_ ?_ ?_
  · intro c1 c2; exfalso; omega
  · intro c1 c2 c3; exfalso; omega
  · intro c1 c2 c3 c4
    refine ⟨by omega, fun h3 s1 s2 s3 s4 => none_ c1 h3 s1 (fun i => ?_) s3 s4⟩
    rw [s2 i]
    unfold pb_v
    rw [if_neg (c := 3 ≤ mi_a h2 68 zu.toNat ∧ mi_a h2 68 zu.toNat ≤ 7) (by omega)]
    all_goals rfl
  · intro c1 c2 c3 c4 c5
    refine ⟨by omega, fun h3 s1 s2 s3 s4 => none_ c1 h3 s1 (fun i => ?_) s3 s4⟩
    rw [s2 i]
    unfold pb_v
    rw [if_neg (c := 3 ≤ mi_a h2 68 zu.toNat ∧ mi_a h2 68 zu.toNat ≤ 7) (by omega)]
    all_goals rfl
  · intro c1 c2 c3 c4 c5
    refine ⟨by omega, fun h3 s1 s2 s3 s4 => none_ c1 h3 s1 (fun i => ?_) s3 s4⟩
    rw [s2 i]
    unfold pb_v
    rw [if_pos (c := 3 ≤ mi_a h2 68 zu.toNat ∧ mi_a h2 68 zu.toNat ≤ 7) (by omega)]
    all_goals rfl
  · intro c1 c2 c3; exfalso; omega
  · intro c1 c2 c3 c4; exfalso; omega
  · intro c1 c2 c3 c4; exfalso; omega
  · intro c1 c2 c3 c4; exfalso; omega
  · intro c1 c2 c3 c4 c5; exfalso; omega
  · intro c1 c2 c3 c4 c5; exfalso; omega
  · intro c1 c2 c3 c4; exfalso; omega
  · intro c1 c2 c3 c4 c5; exfalso; omega
  · intro c1 c2 c3 c4 c5
    have pp : 0 ≤ (cv_p h2 zu).1 := c2
    refine ⟨by omega, fun h3 s1 s2 s3 s4 => ⟨rfl, s1, s4, fun i => ?_, fun i => ?_⟩⟩
    · rw [s2 i]
      unfold sp_v
      rw [if_pos pp]
      rfl
    · rw [s3 i]
      unfold sp_s
      rw [if_pos pp]
      rfl
theorem me_mayBePassed (hS : ab_Sh sx_sk h) (u0 : 0 ≤ zu) (u1 : zu < 60) : me_E (d + 2) 74 0 [some (.inr (.inr 78)), some (.inl zu)] [] h (fun w h' => h' = h ∧ ∃ z, w = some (.inl z) ∧ (z = 0 ∨ z = 1) ∧ (z = 1 ↔ (mi_a h 72 zu.toNat ≠ 0 ∨ mi_a h 89 zu.toNat = 1))) := by
  refine mt_mpA hS ⟨by omega, by omega⟩ ?_ ?_ ?_ ?_ ?_
  · intro c1; exfalso; omega
  · intro c1 c2; exfalso; omega
  · intro c1 c2 c3
    exact ⟨by omega, fun h1 g1 g2 => ⟨me_nil g2, 1, rfl, Or.inr rfl, ⟨fun _ => Or.inl c3, fun _ => rfl⟩⟩⟩
  · intro c1 c2 c3 c4
    exact ⟨by omega, fun h1 g1 g2 => ⟨me_nil g2, 0, rfl, Or.inl rfl, ⟨fun q => absurd q (by decide), fun q => (q.elim (fun q => absurd c3 q) (fun q => absurd q c4))⟩⟩⟩
  · intro c1 c2 c3 c4
    exact ⟨by omega, fun h1 g1 g2 => ⟨me_nil g2, 1, rfl, Or.inr rfl, ⟨fun _ => Or.inr c4, fun _ => rfl⟩⟩⟩
theorem me_heightc (hS : ab_Sh sx_sk h) (u0 : 0 ≤ zu) (u1 : zu < 60) (hg : gf_v h zu = -1 ∨ (0 ≤ gf_v h zu ∧ gf_v h zu < 70)) (hH : ∀ F : Nat, F < 70 → mi_a h 82 F ≤ 1000) : me_E (d + 3) 75 0 [some (.inr (.inr 78)), some (.inl zu), none, none] [] h (fun w h' => h' = h ∧ w = some (.inl (min 1000 (sp_h (cX h) (cv_p h zu))))) := by
  have ou : mi_in zu := ⟨by omega, by omega⟩
  refine mt_hgA hS ou (fun h1 g1 g2 => ?_)
  have e0 := me_nil g2
  subst e0
  refine ⟨_, me_gformIn (d := d + 1) hS u0 u1, fun w h2 oww hq => ?_⟩
  obtain ⟨rfl, rfl⟩ := hq
  have og : mi_in (gf_v h2 zu) := ⟨by omega, by omega⟩
  have w0 : mi_a h2 72 zu.toNat ≠ 0 → (cv_p h2 zu).2.2.1 ≠ 0 := fun q => by
    show (if mi_a h2 72 zu.toNat = 0 then (0 : Int) else if mi_a h2 72 zu.toNat = 5 then 1 else 2) ≠ 0
    rw [if_neg q]
    split <;> decide
  have w1 : mi_a h2 72 zu.toNat = 0 → ¬ (cv_p h2 zu).2.2.1 ≠ 0 := fun q => by
    show ¬ (if mi_a h2 72 zu.toNat = 0 then (0 : Int) else if mi_a h2 72 zu.toNat = 5 then 1 else 2) ≠ 0
    rw [if_pos q]
    exact fun x => x rfl
  refine mt_hgB hS ou og ?_ ?_ ?_ ?_ ?_ ?_ ?_ ?_ ?_ ?_ ?_
  · intro c1 h3 g1 g2
    refine ⟨me_nil g2, ?_⟩
    have e : sp_h (cX h2) (cv_p h2 zu) = 0 := by
      unfold sp_h
      rw [if_neg (c := 0 ≤ (cv_p h2 zu).1) (by show ¬ 0 ≤ gf_v h2 zu; omega)]
      split <;> rfl
    rw [e]
    rfl
  · intro c1 c2; exfalso; omega
  · intro c1 c2; exfalso; omega
  · intro c1 c2; exfalso; omega
  · intro c1 c2 c3; exfalso; omega
  · intro c1 c2 c3; exfalso; omega
  · intro c1 c2 c3; exfalso; omega
  · intro c1 c2 c3 c4 c5; exfalso; omega
  · intro c1 c2 c3 c4 c5 c6; exfalso; omega
  · intro c1 c2 c3 c4 c5 c6
    refine ⟨by omega, fun h3 g1 g2 => ?_⟩
    have e0 := me_nil g2
    subst e0
    have hb := hH (gf_v h3 zu).toNat (by omega)
    have hi : mi_in (mi_a h3 82 (gf_v h3 zu).toNat) := mi_inT _
    have e : sp_h (cX h3) (cv_p h3 zu) = mi_a h3 82 (gf_v h3 zu).toNat + (if mi_a h3 68 zu.toNat = 9 then 1 else 0) := by
      unfold sp_h
      rw [if_neg (w1 c4), if_pos (c := 0 ≤ (cv_p h3 zu).1) c5]
      rfl
    rw [e]
    refine mt_hgC hS ou og hi ?_ ?_ ?_ ?_ ?_
    · intro k1; exfalso; omega
    · intro k1 k2; exfalso; omega
    · intro k1 k2 k3
      refine ⟨by omega, fun h4 g1 g2 => ⟨me_nil g2, ?_⟩⟩
      rw [if_neg k3]
      congr 2
      omega
    · intro k1 k2 k3 k4
      refine ⟨by have := hi.1; omega, fun h4 g1 g2 => ⟨me_nil g2, ?_⟩⟩
      rw [if_pos k3]
      congr 2
      omega
    · intro k1 k2 k3 k4
      refine ⟨by have := hi.1; omega, fun h4 g1 g2 => ⟨me_nil g2, ?_⟩⟩
      rw [if_pos k3]
      congr 2
      omega
  · intro c1 c2 c3 c4
    refine ⟨by omega, fun h3 g1 g2 => ⟨me_nil g2, ?_⟩⟩
    have e : sp_h (cX h2) (cv_p h2 zu) = 0 := by
      unfold sp_h
      rw [if_pos (w0 c4)]
    rw [e]
    rfl
theorem me_beginsc (hS : ab_Sh sx_sk h) (ou : mi_in zu) : me_E (d + 2) 73 0 [some (.inr (.inr 78)), some (.inl zu), none, none] [] h (fun w h' => h' = h ∧ ∃ z, w = some (.inl z) ∧ mi_in z) := by
  have := me_abs (as := [.inr (.inr 78), .inl zu]) xo_99 rfl hS ⟨rfl, me_nv1 ou ou.1 ou.2, trivial⟩ (fun e he => by cases he) (by decide)
  refine (me_E.deep (d' := d + 2) this (by show 2 ≤ d + 2; omega)).imp (fun w h' hq => ?_)
  obtain ⟨q1, q2, p, hp, q3, -⟩ := hq
  refine ⟨me_nil q2, ?_⟩
  rcases List.mem_cons.mp hp with rfl | hp
  · obtain ⟨z, e1, e2, e3⟩ := me_resI q3 (by decide) rfl
    exact ⟨z, e1, e2, e3⟩
  · cases hp
end CVP
