/-! the class's Checks: choices; the first fault -/
def k8l (dir : Nat → Int64) (pl : Nat → Int) : List Int → Int64 → Int → Prop
  | [], _, _ => False
  | a :: r, b, x => ((dir a.toNat &&& b ≠ 0) ∧ x = 8 + 16 * pl a.toNat) ∨ k8l dir pl r (b ||| dir a.toNat) x
def ccx_Q (S : Int → Prop) (h0 : sm_H) (l : List Int) (b : Int64) (w : Option mi_V) (h' : sm_H) : Prop := w = none ∧ ab_Sh sx_sk h' ∧ ab_Fr bm_W h0 h' ∧ lo_S (fun x => S x ∨ k8l (mx_b h0 88) (mi_a h0 67) l b x) (mi_f h' 11906)
section CCX
variable {d : Nat} {hb h0 : sm_H} {U : Int}
theorem ccx_loop {F : Nat} (hS0 : ab_Sh sx_sk h0) (e : cv_eq hb h0) (hF70 : F < 70) : ∀ (m : Nat) (za zn : Int) (zb : Int64) (q6 q7 : Option mi_V) (h : sm_H) (S : Int → Prop), (m : Int) + zn = cv_n hb F → 0 ≤ zn → mi_in za → (∀ v, q6 = some v → mi_ok v) → (∀ v, q7 = some v → mi_ok v) → cv_al hb U m za → (∀ x, S x → 0 < x) → (∀ x, k8l (mx_b h0 88) (mi_a h0 67) (cv_as hb m za) zb x → 8 ≤ x ∧ x ≤ 16008) → ab_Sh sx_sk h → ab_Fr bm_W h0 h → lo_S S (mi_f h 11906) → me_E (d + 3) 87 18 [some (.inr (.inr 93)), some (.inl (F : Int)), some (.inr (.inl zb)), none, some (.inl za), some (.inl zn), q6, q7] [] h (ccx_Q S h0 (cv_as hb m za) zb) := by
  have cn : cv_n hb F ≤ 6 := by unfold cv_n; omega
  have of : mi_in (F : Int) := ⟨by omega, by omega⟩
  have eF : ((F : Int)).toNat = F := rfl
  intro m
  induction m with
  | zero =>
    intro za zn zb q6 q7 h S hN k0 oa o6 o7 hal hp hx hS hF hl
    have on : mi_in zn := ⟨by omega, by omega⟩
    have e64 : mi_a h 64 F = mi_a hb 64 F := by rw [me_a (k := 64) hF hS0 rfl rfl, e.2.1]
    have fin : ∀ h1, ab_Fr [] h h1 → ccx_Q S h0 [] zb none h1 := fun h1 g2 => by
      have e0 := me_nil g2
      subst e0
      exact ⟨rfl, hS, hF, lo_cg hl (fun x => ⟨Or.inl, fun q => q.elim id (fun y => y.elim)⟩)⟩
    refine mt_yccB hS of oa on o6 o7 ?_ ?_ ?_ ?_ ?_ ?_ ?_ ?_ ?_ ?_ ?_ ?_ ?_ ?_ ?_
    · intro c; exfalso; omega
    · intro c; exfalso; omega
    · intro c; exfalso; omega
    · intro c; exfalso; omega
    · intro c; exfalso; omega
    · intro c c2; exfalso; omega
    · intro c c2; exfalso; omega
    · intro c c2; exfalso; omega
    · intro c c2; exfalso; omega
    · intro c c2; exfalso; omega
    · intro c c2 c3; exact ⟨by omega, fun h1 g1 g2 => fin h1 g2⟩
    · intro c c2 c3 c4; exact ⟨by omega, fun h1 g1 g2 => fin h1 g2⟩
    · intro c c2 c3 c4; exfalso; rw [eF, e64] at c3; unfold cv_n at hN; omega
    · intro c c2 c3 c4; exfalso; rw [eF, e64] at c3; unfold cv_n at hN; omega
    · intro c c2 c3 c4; exfalso; rw [eF, e64] at c3; unfold cv_n at hN; omega
  | succ m ih =>
    intro za zn zb q6 q7 h S hN k0 oa o6 o7 hal hp hx hS hF hl
    have on : mi_in zn := ⟨by omega, by omega⟩
    obtain ⟨⟨a0, a1⟩, -, hal'⟩ := hal
    have e64 : mi_a h 64 F = mi_a hb 64 F := by rw [me_a (k := 64) hF hS0 rfl rfl, e.2.1]
    have lt : zn < mi_a hb 64 F := by unfold cv_n at hN; omega
    have e88 : mx_b h 88 za.toNat = mx_b h0 88 za.toNat := me_b (k := 88) hF hS0 rfl rfl
    have el : cv_as hb (m + 1) za = za :: cv_as hb m (mi_a hb 66 za.toNat) := rfl
    rw [el] at hx ⊢
    /- the next one -/
    have T82 : ∀ (h2 : sm_H) (S' : Int → Prop), (∀ x, S' x → 0 < x) → ab_Sh sx_sk h2 → ab_Fr bm_W h0 h2 → lo_S S' (mi_f h2 11906) → (∀ x, S' x ↔ (S x ∨ ((mx_b h0 88 za.toNat &&& zb ≠ 0) ∧ x = 8 + 16 * mi_a h0 67 za.toNat))) → me_E (d + 3) 87 82 [some (.inr (.inr 93)), some (.inl (F : Int)), some (.inr (.inl zb)), none, some (.inl za), some (.inl zn), some (.inr (.inl (mx_b h0 88 za.toNat))), none] [] h2 (ccx_Q S h0 (za :: cv_as hb m (mi_a hb 66 za.toNat)) zb) := by
      intro h2 S' p' s1 s2 s3 s4
      refine mt_yccD s1 of oa on (fun c => by exfalso; omega) (fun c c2 => by exfalso; omega) (fun c c2 => ⟨by omega, fun h3 g1 g2 => ?_⟩)
      have e0 := me_nil g2
      subst e0
      have e66 : mi_a h3 66 za.toNat = mi_a hb 66 za.toNat := by rw [me_a (k := 66) s2 hS0 rfl rfl, e.2.2.2.1]
      rw [e66]
      refine (ih _ (zn + 1) _ _ _ h3 S' (by omega) (by omega) (mi_inT _) (fun v q => by cases q; trivial) me_on hal' p' (fun x q => hx x (Or.inr q)) s1 s2 s3).imp (fun w h' hq => ?_)
      obtain ⟨r1, r2, r3, r4⟩ := hq
      refine ⟨r1, r2, r3, lo_cg r4 (fun x => ?_)⟩
      rw [s4]
      constructor
      · rintro ((q | q) | q)
        · exact Or.inl q
        · exact Or.inr (Or.inl q)
        · exact Or.inr (Or.inr q)
      · rintro (q | q | q)
        · exact Or.inl (Or.inl q)
        · exact Or.inl (Or.inr q)
        · exact Or.inr q
    have T55 : ∀ h1, ab_Fr [] h h1 → me_E (d + 3) 87 55 [some (.inr (.inr 93)), some (.inl (F : Int)), some (.inr (.inl zb)), none, some (.inl za), some (.inl zn), some (.inr (.inl (mx_b h 88 (Int.toNat za)))), none] [] h1 (ccx_Q S h0 (za :: cv_as hb m (mi_a hb 66 za.toNat)) zb) := fun h1 g2 => by
      have e0 := me_nil g2
      subst e0
      rw [e88]
      refine mt_yccC hS of oa on (fun c h2 g1 g2 => ?_) (fun c c2 => by exfalso; omega) (fun c c2 c3 => by exfalso; omega) (fun c c2 c3 => ⟨by omega, fun h2 g1 g2 => ?_⟩)
      · have e0 := me_nil g2
        subst e0
        have c := lg_eq.mp c
        exact T82 h2 S hp hS hF hl (fun x => ⟨Or.inl, fun q => q.elim id (fun y => absurd c y.1)⟩)
      · have e0 := me_nil g2
        subst e0
        have c : mx_b h0 88 za.toNat &&& zb ≠ 0 := fun q => c (lg_eq.mpr q)
        have e67 : mi_a h2 67 za.toNat = mi_a h0 67 za.toNat := me_a (k := 67) hF hS0 rfl rfl
        have b := hx (8 + 16 * mi_a h0 67 za.toNat) (Or.inl ⟨c, rfl⟩)
        refine ⟨_, me_blamec (d := d + 1) (zk := 8) (zp := mi_a h2 67 za.toNat) hS (by decide) (by decide) (by rw [e67]; omega) (by rw [e67]; omega) hp hl, fun w h4 oww hr => ?_⟩
        obtain ⟨rfl, t1, t2, t3⟩ := hr
        refine T82 h4 _ (fun x q => ?_) t1 (hF.trans t2) t3 (fun x => ?_)
        · rcases q with q | q
          · exact hp x q
          · rw [e67] at q; omega
        · rw [e67]
          exact ⟨fun q => q.imp id (fun y => ⟨c, y⟩), fun q => q.imp id (fun y => y.2)⟩
    refine mt_yccB hS of oa on o6 o7 ?_ ?_ ?_ ?_ ?_ ?_ ?_ ?_ ?_ ?_ ?_ ?_ ?_ ?_ ?_
    · intro c; exfalso; omega
    · intro c; exfalso; omega
    · intro c; exfalso; omega
    · intro c; exfalso; omega
    · intro c; exfalso; omega
    · intro c c2; exfalso; omega
    · intro c c2; exfalso; omega
    · intro c c2; exfalso; omega
    · intro c c2; exfalso; omega
    · intro c c2; exfalso; omega
    · intro c c2 c3; exfalso; rw [eF, e64] at c3; omega
    · intro c c2 c3 c4; exfalso; omega
    · intro c c2 c3 c4 c5; exfalso; omega
    · intro c c2 c3 c4 c5 c6; exfalso; omega
    · intro c c2 c3 c4 c5 c6; exact ⟨by omega, fun h1 g1 g2 => T55 h1 g2⟩
/-- all candidates -/
def k_8 (hb h : sm_H) (n : Nat) (x : Int) : Prop := ∃ F : Nat, F < n ∧ k8l (mx_b h 88) (mi_a h 67) (cv_A hb F) 0 x
def k_all (hb h : sm_H) (x : Int) : Prop := ((k_5 h (mi_f h 7680) x ∨ k_6 h (mi_f h 7680) x) ∨ k_7 h (mi_f h 7690) x ∨ k_9 h (mi_f h 7690) x) ∨ k_8 hb h 70 x
/-- the places are places -/
def k_pl (hb h : sm_H) : Prop := (0 ≤ mi_f h 7680 ∧ mi_f h 7680 ≤ 10) ∧ (0 ≤ mi_f h 7690 ∧ mi_f h 7690 ≤ 60) ∧ (∀ r : Nat, (r : Int) < mi_f h 7680 → 0 ≤ mi_a h 62 r ∧ mi_a h 62 r ≤ 1000) ∧ (∀ u : Nat, (u : Int) < mi_f h 7690 → mi_a h 72 u ≠ 0 → 0 ≤ mi_a h 73 u ∧ mi_a h 73 u ≤ 1000) ∧ ∀ x, k_8 hb h 70 x → 8 ≤ x ∧ x ≤ 16008
theorem ff_forms (hS0 : ab_Sh sx_sk h0) (e : cv_eq hb h0) (hF : cv_F hb U) (hK : ∀ x, k_8 hb h0 70 x → 8 ≤ x ∧ x ≤ 16008) {S : Int → Prop} (hp : ∀ x, S x → 0 < x) : ∀ (c F : Nat) (h : sm_H), F + c = 70 → ab_Sh sx_sk h → ab_Fr bm_W h0 h → lo_S (fun x => S x ∨ k_8 hb h0 F x) (mi_f h 11906) → me_E (d + 4) 82 15 [some (.inr (.inr 93)), some (.inl (F : Int))] [] h (fun w h' => ab_Sh sx_sk h' ∧ ab_Fr bm_W h0 h' ∧ ∃ z, w = some (.inl z) ∧ lo_S (fun x => S x ∨ k_8 hb h0 70 x) z) := by
  intro c
  induction c with
  | zero =>
    intro F h hc hS hFr hl
    have eF : F = 70 := by omega
    rw [eF] at hl ⊢
    refine mt_yffD hS ⟨by decide, by decide⟩ (fun c h1 g1 g2 => ?_) (fun c => by exfalso; omega)
    have e0 := me_nil g2
    subst e0
    exact ⟨hS, hFr, _, rfl, hl⟩
  | succ c ih =>
    intro F h hc hS hFr hl
    have of : mi_in (F : Int) := ⟨by omega, by omega⟩
    refine mt_yffD hS of (fun c => by exfalso; omega) (fun c h1 g1 g2 => ?_)
    have e0 := me_nil g2
    subst e0
    have hp' : ∀ x, (S x ∨ k_8 hb h0 F x) → 0 < x := fun x q => by
      rcases q with q | ⟨F', f1, f2⟩
      · exact hp x q
      · have := hK x ⟨F', by omega, f2⟩
        omega
    have CC : me_E (d + 3) 87 0 [some (.inr (.inr 93)), some (.inl (F : Int)), none, none, none, none, none, none] [] h1 (ccx_Q (fun x => S x ∨ k_8 hb h0 F x) h0 (cv_A hb F) 0) := by
      refine mt_yccA hS of (fun c => by exfalso; omega) (fun c c2 => by exfalso; omega) (fun c c2 => ⟨by omega, fun h2 g1 g2 => ?_⟩)
      have e0 := me_nil g2
      subst e0
      have e63 : mi_a h2 63 ((F : Int)).toNat = mi_a hb 63 F := by
        show mi_a h2 63 F = _
        rw [me_a (k := 63) hFr hS0 rfl rfl, e.1]
      rw [e63]
      exact ccx_loop (F := F) hS0 e (by omega) (cv_n hb F) _ 0 _ none none h2 _ (by omega) (by decide) (mi_inT _) me_on me_on (hF.2 F (by omega)) hp' (fun x q => hK x ⟨F, by omega, q⟩) hS hFr hl
    refine ⟨_, CC, fun w h2 oww hq => ?_⟩
    obtain ⟨rfl, r2, r3, r4⟩ := hq
    refine mt_yffE r2 of ⟨by omega, fun h3 g1 g2 => ?_⟩
    have e0 := me_nil g2
    subst e0
    have ek : (F : Int) + 1 = ((F + 1 : Nat) : Int) := by omega
    rw [ek]
    refine ih (F + 1) h3 (by omega) r2 r3 (lo_cg r4 (fun x => ?_))
    constructor
    · rintro ((q | ⟨F', f1, f2⟩) | q)
      · exact Or.inl q
      · exact Or.inr ⟨F', by omega, f2⟩
      · exact Or.inr ⟨F, by omega, q⟩
    · rintro (q | ⟨F', f1, f2⟩)
      · exact Or.inl (Or.inl q)
      · by_cases c : F' = F
        · rw [c] at f2; exact Or.inr f2
        · exact Or.inl (Or.inr ⟨F', by omega, f2⟩)
end CCX
