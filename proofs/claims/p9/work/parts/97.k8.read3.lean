/-! the class's nameUses, read -/
def nu_W : List (Nat × Nat) := [(8832, 8833), (9730, 9732)]
/-- the rows, and the uses' rules named -/
def CU (f : Int → Int) (ow : Nat → Nat) (g : wk_g) (k : Int) (h : sm_H) : Prop := ∃ h0, ab_Sh sx_sk h0 ∧ CQ f ow g h0 ∧ ab_Fr nu_W h0 h ∧ ∀ u : Nat, (u : Int) < g 0 0 → mi_a h 69 u = if g 119 u = 9 ∧ (u : Int) < k then g 115 (g 120 u).toNat else mi_a h0 69 u
def nu_Q (f : Int → Int) (ow : Nat → Nat) (g : wk_g) (h0 : sm_H) (w : Option mi_V) (h' : sm_H) : Prop := w = none ∧ ab_Sh sx_sk h' ∧ ab_Fr nu_W h0 h' ∧
  (mi_f h' 9730 = 0 → mi_f h' 9731 = 0 ∧ rz_U g ∧ CU f ow g (g 0 0) h') ∧ (mi_f h' 9730 ≠ 0 → rz_N g (kF h') ∧ kb h')
section KNU
variable {f : Int → Int} {ow : Nat → Nat} {g : wk_g} {h0 : sm_H}
theorem nu_loop {d : Nat} (hS0 : ab_Sh sx_sk h0) (hP : PR ow g) (hq : CQ f ow g h0) (hpl : ∀ u : Nat, (u : Int) < g 0 0 → 0 ≤ g 121 u ∧ g 121 u ≤ 241) : ∀ (N : Nat) (zu : Int) (q2 : Option mi_V) (h : sm_H), 60 - zu < N → 0 ≤ zu → zu ≤ 60 → (∀ v, q2 = some v → mi_ok v) → ab_Sh sx_sk h → ab_Fr nu_W h0 h → (∀ u : Nat, (u : Int) < g 0 0 → mi_a h 69 u = if g 119 u = 9 ∧ (u : Int) < zu then g 115 (g 120 u).toNat else mi_a h0 69 u) → (mi_f h 9730 = 0 → mi_f h 9731 = 0 ∧ ∀ j : Nat, (j : Int) < zu → (j : Int) < g 0 0 → g 119 j = 9 → 0 ≤ g 115 (g 120 j).toNat) → (mi_f h 9730 ≠ 0 → rz_N g (kF h) ∧ kb h) → me_E (d + 2) 64 2 [some (.inr (.inr 76)), some (.inl zu), q2] [] h (nu_Q f ow g h0) := by
  obtain ⟨⟨p1, p2, p3, p4, p5⟩, -⟩ := hP
  obtain ⟨⟨c0, c1, c2, c3, c4⟩, d1, d2, d3, d4, d5, d6, d7, d8, d9, dw⟩ := id hq
  intro N
  induction N with
  | zero => intro zu q2 h hN z0 z1; exfalso; omega
  | succ N ih =>
    intro zu q2 h hN z0 z1 oq hS hF h69 hg hb
    have ou : mi_in zu := ⟨by omega, by omega⟩
    have e90 : mi_f h 7690 = g 0 0 := (me_f (c := 7690) hF hS0 rfl rfl).trans c0
    have e80 : mi_f h 7680 = g 0 3 := (me_f (c := 7680) hF hS0 rfl rfl).trans c2
    have e61 : ∀ i, mi_a h 61 i = mi_a h0 61 i := fun i => me_a (k := 61) hF hS0 rfl rfl
    have e68 : ∀ i, mi_a h 68 i = mi_a h0 68 i := fun i => me_a (k := 68) hF hS0 rfl rfl
    have e70 : ∀ i, mi_a h 70 i = mi_a h0 70 i := fun i => me_a (k := 70) hF hS0 rfl rfl
    refine mt_nuB hS ou oq ?_ ?_ ?_ ?_ ?_ ?_
    · intro b k1 h1 g1 g2
      have e0 := me_nil g2
      subst e0
      refine ⟨rfl, hS, hF, fun q => ?_, hb⟩
      obtain ⟨y1, y2⟩ := hg q
      refine ⟨y1, fun u hu h9 => y2 u (by omega) hu h9, h0, hS0, hq, hF, fun u hu => ?_⟩
      rw [h69 u hu]
      by_cases c9 : g 119 u = 9
      · rw [if_pos ⟨c9, by omega⟩, if_pos ⟨c9, hu⟩]
      · rw [if_neg (fun q => c9 q.1), if_neg (fun q => c9 q.1)]
    · intro b b2 k1 k2 h1 g1 g2
      have e0 := me_nil g2
      subst e0
      exact ⟨rfl, hS, hF, fun q => absurd q k2, hb⟩
    · intro b b2 k1 k2 k3; exfalso; omega
    · intro b b2 k1 k2 k3 k4; exfalso; omega
    · intro b b2 k1 k2 k3 k4 k5
      have ut : (zu.toNat : Int) = zu := Int.toNat_of_nonneg z0
      have n9 : g 119 zu.toNat ≠ 9 := by rw [← (d7 zu.toNat (by omega)).1, ← e68]; exact k5
      refine ⟨⟨⟨z0, k4⟩, by omega, by omega⟩, fun h1 g1 g2 => ?_⟩
      have e0 := me_nil g2
      subst e0
      refine ih (zu + 1) q2 h1 (by omega) (by omega) (by omega) oq hS hF (fun u hu => ?_) (fun q => ⟨(hg q).1, fun j hj hj0 h9 => ?_⟩) hb
      · rw [h69 u hu]
        by_cases c9 : g 119 u = 9
        · have : u ≠ zu.toNat := fun q => n9 (by rw [← q]; exact c9)
          by_cases cl : (u : Int) < zu
          · rw [if_pos ⟨c9, cl⟩, if_pos ⟨c9, by omega⟩]
          · rw [if_neg (fun q => cl q.2), if_neg (fun q => by have := q.2; omega)]
        · rw [if_neg (fun q => c9 q.1), if_neg (fun q => c9 q.1)]
      · have : j ≠ zu.toNat := fun q => n9 (by rw [← q]; exact h9)
        exact (hg q).2 j (by omega) hj0 h9
    · intro b b2 k1 k2 k3 k4 k5
      have ut : (zu.toNat : Int) = zu := Int.toNat_of_nonneg z0
      have uu : (zu.toNat : Int) < g 0 0 := by omega
      have n9 : g 119 zu.toNat = 9 := by rw [← (d7 zu.toNat (by omega)).1, ← e68]; exact k5
      refine ⟨⟨z0, k4⟩, fun h1 g1 g2 => ?_⟩
      have e0 := me_nil g2
      subst e0
      obtain ⟨w, hw⟩ : ∃ w, w = g 120 zu.toNat := ⟨_, rfl⟩
      have w01 := (d9 zu.toNat uu).2 n9
      have ev : mi_a h1 69 zu.toNat = w + 65 := by
        rw [h69 _ uu, if_neg (fun q => by have := q.2; omega), (d7 _ uu).2.1]
        unfold cq_v
        rw [if_pos n9, hw]
      rw [← hw] at w01
      refine ⟨_, me_gruleNamed (d := d) (zl := mi_a h1 69 zu.toNat) hS ⟨by omega, by omega⟩ (by omega), fun w' h2 oww hq2 => ?_⟩
      obtain ⟨rfl, z, rfl, hz⟩ := hq2
      have oz : mi_in z := by rcases hz with ⟨x1, x2, -⟩ | ⟨x1, -⟩ <;> exact ⟨by omega, by omega⟩
      have hge := hg k2
      refine mt_nuC hS ou oz oq ?_ ?_ ?_ ?_ ?_ ?_
      · intro k6; exfalso; omega
      · intro k6; exfalso; omega
      · intro k6 k7; exfalso; omega
      · intro k6 k7; exfalso; omega
      · intro k6 k7 k8
        refine ⟨⟨⟨z0, k4⟩, by omega, by omega⟩, fun h3 s1 s2 s3 => ?_⟩
        have ez : g 115 w.toNat = z := by
          rcases hz with ⟨x1, x2, x3, -⟩ | ⟨x1, -⟩
          · obtain ⟨v', y1, y2, y3⟩ := d3 z.toNat (by omega)
            rw [e61, y2, ev] at x3
            have : v' = w.toNat := by omega
            rw [← this, y3]
            omega
          · exact absurd x1 k8
        have zp : 0 ≤ z := by
          rcases hz with ⟨x1, -⟩ | ⟨x1, -⟩
          · exact x1
          · exact absurd x1 k8
        have f3 : mi_f h3 9730 = 0 := (me_f (c := 9730) s3 hS rfl rfl).trans k2
        refine ih (zu + 1) _ h3 (by omega) (by omega) (by omega) (me_oi oz) s1 (hF.trans (s3.wide (fun c hc => ab_swr_ok (by decide) hc))) (fun u hu => ?_) (fun q => ⟨(me_f (c := 9731) s3 hS rfl rfl).trans hge.1, fun j hj hj0 h9 => ?_⟩) (fun q => absurd f3 q)
        · rw [s2 u]
          by_cases cu : u = zu.toNat
          · rw [if_pos cu, cu, if_pos ⟨n9, by omega⟩, ← hw, ez]
          · rw [if_neg cu, h69 u hu]
            by_cases c9 : g 119 u = 9
            · by_cases cl : (u : Int) < zu
              · rw [if_pos ⟨c9, cl⟩, if_pos ⟨c9, by omega⟩]
              · rw [if_neg (fun q => cl q.2), if_neg (fun q => by have := q.2; omega)]
            · rw [if_neg (fun q => c9 q.1), if_neg (fun q => c9 q.1)]
        · by_cases cj : j = zu.toNat
          · rw [cj, ← hw, ez]
            exact zp
          · exact hge.2 j (by omega) hj0 h9
      · intro k6 k7 k8
        refine ⟨⟨⟨z0, k4⟩, by omega, by omega⟩, fun h3 s1 s2 s3 s4 s5 => ?_⟩
        have nn : g 115 w.toNat < 0 := by
          rcases hz with ⟨x1, -⟩ | ⟨-, x2⟩
          · omega
          · refine Int.not_le.mp (fun q => ?_)
            have k := d2 w.toNat (by omega) q
            refine x2 (g 115 w.toNat).toNat (by omega) ?_
            rw [e61, k.2, ev]
            omega
        have e70' : mi_f h3 9731 = g 121 zu.toNat := by rw [s3, e70]; exact (d7 _ uu).2.2.1
        have RN : rz_N g (kF h3) ∧ kb h3 := by
          refine ⟨⟨zu.toNat, uu, n9, by rw [← hw]; exact nn, fun j hj h9 => hge.2 j (by omega) (by omega) h9, ?_⟩, ?_⟩
          · unfold kF
            rw [s2, e70']
          · have := hpl _ uu
            exact ⟨by omega, by omega, by omega⟩
        have n3 : mi_f h3 9730 ≠ 0 := by omega
        /- the loop ends at once -/
        refine mt_nuB s1 ⟨by omega, by omega⟩ (me_oi oz) ?_ ?_ (fun _ _ _ q => absurd q n3) (fun _ _ _ q => absurd q n3) (fun _ _ _ q => absurd q n3) (fun _ _ _ q => absurd q n3)
        · intro _ _ h4 g1 g2
          have e0 := me_nil g2
          subst e0
          exact ⟨rfl, s1, hF.trans (s5.wide (fun c hc => ab_swr_ok (by decide) hc)), fun q => absurd q n3, fun _ => RN⟩
        · intro _ _ _ _ h4 g1 g2
          have e0 := me_nil g2
          subst e0
          exact ⟨rfl, s1, hF.trans (s5.wide (fun c hc => ab_swr_ok (by decide) hc)), fun q => absurd q n3, fun _ => RN⟩
theorem me_nameUses {d : Nat} {n : Int} (n1 : n ≤ 240) (hV : PV n g) (hS0 : ab_Sh sx_sk h0) (hP : PR ow g) (hq : CQ f ow g h0) (hf : mi_f h0 9730 = 0) (hf1 : mi_f h0 9731 = 0) : me_E (d + 2) 64 0 [some (.inr (.inr 76)), none, none] [] h0 (nu_Q f ow g h0) := by
  refine mt_nuA hS0 (fun h1 g1 g2 => ?_)
  have e0 := me_nil g2
  subst e0
  exact nu_loop hS0 hP hq (fun u hu => by have := (hV.2.2 u hu).1; omega) 61 0 none h1 (by decide) (by decide) (by decide) me_on hS0 ab_Fr.refl (fun u hu => by rw [if_neg (fun q => by have := q.2; omega)]) (fun _ => ⟨hf1, fun j hj => by omega⟩) (fun q => absurd hf q)
end KNU
