/-! the class's Checks: the least of what is found -/
/-- v is the least of S, 0 if there is none -/
def lo_S (S : Int → Prop) (v : Int) : Prop := (v = 0 ∧ ∀ x, ¬ S x) ∨ (S v ∧ ∀ x, S x → v ≤ x)
theorem lo_u {S : Int → Prop} {v v' : Int} (hp : ∀ x, S x → 0 < x) (h : lo_S S v) (h' : lo_S S v') : v = v' := by
  rcases h with ⟨a, b⟩ | ⟨a, b⟩ <;> rcases h' with ⟨a', b'⟩ | ⟨a', b'⟩
  · omega
  · exact absurd a' (b v')
  · exact absurd a (b' v)
  · have := b v' a'
    have := b' v a
    omega
theorem lo_cg {S T : Int → Prop} {v : Int} (h : lo_S S v) (e : ∀ x, S x ↔ T x) : lo_S T v := by
  rcases h with ⟨a, b⟩ | ⟨a, b⟩
  · exact Or.inl ⟨a, fun x hx => b x ((e x).mpr hx)⟩
  · exact Or.inr ⟨(e v).mp a, fun x hx => b x ((e x).mpr hx)⟩
theorem lo_add {S : Int → Prop} {v y v' : Int} (hp : ∀ x, S x → 0 < x) (h : lo_S S v) (e : (v = 0 ∨ y < v) ∧ v' = y ∨ (v ≠ 0 ∧ v ≤ y) ∧ v' = v) : lo_S (fun x => S x ∨ x = y) v' := by
  rcases h with ⟨a, b⟩ | ⟨a, b⟩
  · rcases e with ⟨-, rfl⟩ | ⟨⟨c, -⟩, -⟩
    · exact Or.inr ⟨Or.inr rfl, fun x hx => hx.elim (fun q => absurd q (b x)) (fun q => by omega)⟩
    · exact absurd a c
  · have := hp v a
    rcases e with ⟨c, rfl⟩ | ⟨⟨c, c'⟩, rfl⟩
    · exact Or.inr ⟨Or.inr rfl, fun x hx => hx.elim (fun q => by have := b x q; omega) (fun q => by omega)⟩
    · exact Or.inr ⟨Or.inl a, fun x hx => hx.elim (fun q => b x q) (fun q => by omega)⟩
def bm_W : List (Nat × Nat) := [(11906, 11907)]
section BLM
variable {d : Nat} {h : sm_H} {S : Int → Prop}
theorem me_blamec {zk zp : Int} (hS : ab_Sh sx_sk h) (k0 : 0 ≤ zk) (k1 : zk ≤ 16) (p0 : 0 ≤ zp) (p1 : zp ≤ 1000) (hp : ∀ x, S x → 0 < x) (hl : lo_S S (mi_f h 11906)) : me_E (d + 1) 84 0 [some (.inr (.inr 93)), some (.inl zk), some (.inl zp), none] [] h (fun w h' => w = none ∧ ab_Sh sx_sk h' ∧ ab_Fr bm_W h h' ∧ lo_S (fun x => S x ∨ x = zk + 16 * zp) (mi_f h' 11906)) := by
  refine mt_ybmA hS ⟨by omega, by omega⟩ ⟨by omega, by omega⟩ (fun _ c => ⟨by omega, fun h1 s1 s2 s3 => ⟨rfl, s1, s3, lo_add hp hl (Or.inl ⟨Or.inl c, s2⟩)⟩⟩) (fun _ c c2 => ⟨by omega, fun h1 s1 s2 => ?_⟩) (fun _ c c2 => ⟨by omega, fun h1 s1 s2 s3 => ⟨rfl, s1, s3, lo_add hp hl (Or.inl ⟨Or.inr c2, s2⟩)⟩⟩)
  have e0 := me_nil s2
  subst e0
  exact ⟨rfl, s1, ab_Fr.refl, lo_add hp hl (Or.inr ⟨⟨c, c2⟩, rfl⟩)⟩
/-- a rule's candidates -/
def k_bit (b r : Int) : Prop := (Int32.ofInt (Int32.ofInt b >>> (Int32.ofInt r &&& 31)).toInt &&& Int32.ofInt 1).toInt ≠ 0
def k_5 (h : sm_H) (n x : Int) : Prop := ∃ r : Nat, (r : Int) < n ∧ k_bit (mi_a h 83 r) r ∧ x = 5 + 16 * mi_a h 62 r
def k_6 (h : sm_H) (n x : Int) : Prop := ∃ r : Nat, (r : Int) < n ∧ 1000 ≤ mi_a h 82 r ∧ x = 6 + 16 * mi_a h 62 r
theorem k5_s {n x : Int} (n0 : 0 ≤ n) : k_5 h (n + 1) x ↔ k_5 h n x ∨ (k_bit (mi_a h 83 n.toNat) n ∧ x = 5 + 16 * mi_a h 62 n.toNat) := by
  have ez : ((n.toNat : Nat) : Int) = n := Int.toNat_of_nonneg n0
  constructor
  · rintro ⟨r, r1, r2, r3⟩
    by_cases c : (r : Int) < n
    · exact Or.inl ⟨r, c, r2, r3⟩
    · have e : r = n.toNat := by omega
      subst e
      rw [ez] at r2
      exact Or.inr ⟨r2, r3⟩
  · rintro (⟨r, r1, r2, r3⟩ | ⟨r2, r3⟩)
    · exact ⟨r, by omega, r2, r3⟩
    · exact ⟨n.toNat, by omega, by rw [ez]; exact r2, r3⟩
theorem k6_s {n x : Int} (n0 : 0 ≤ n) : k_6 h (n + 1) x ↔ k_6 h n x ∨ (1000 ≤ mi_a h 82 n.toNat ∧ x = 6 + 16 * mi_a h 62 n.toNat) := by
  constructor
  · rintro ⟨r, r1, r2, r3⟩
    by_cases c : (r : Int) < n
    · exact Or.inl ⟨r, c, r2, r3⟩
    · have e : r = n.toNat := by omega
      subst e
      exact Or.inr ⟨r2, r3⟩
  · rintro (⟨r, r1, r2, r3⟩ | ⟨r2, r3⟩)
    · exact ⟨r, by omega, r2, r3⟩
    · exact ⟨n.toNat, by omega, r2, r3⟩
theorem or_5 (A B C D E : Prop) : (((A ∨ B ∨ C) ∨ D) ∨ E) ↔ (A ∨ (B ∨ D) ∨ (C ∨ E)) := by
  constructor
  · rintro (((a | b | c) | d) | e)
    · exact Or.inl a
    · exact Or.inr (Or.inl (Or.inl b))
    · exact Or.inr (Or.inr (Or.inl c))
    · exact Or.inr (Or.inl (Or.inr d))
    · exact Or.inr (Or.inr (Or.inr e))
  · rintro (a | (b | d) | (c | e))
    · exact Or.inl (Or.inl (Or.inl a))
    · exact Or.inl (Or.inl (Or.inr (Or.inl b)))
    · exact Or.inl (Or.inr d)
    · exact Or.inl (Or.inl (Or.inr (Or.inr c)))
    · exact Or.inr e
theorem crx_loop {h0 : sm_H} (hS0 : ab_Sh sx_sk h0) (hp : ∀ x, S x → 0 < x) (n1 : mi_f h0 7680 ≤ 10) (hq : ∀ r : Nat, (r : Int) < mi_f h0 7680 → 0 ≤ mi_a h0 62 r ∧ mi_a h0 62 r ≤ 1000) : ∀ (N : Nat) (zr : Int) (q2 : Option mi_V) (h : sm_H), mi_f h0 7680 - zr < N → 0 ≤ zr → zr ≤ 10 → (zr = 0 ∨ zr ≤ mi_f h0 7680) → (∀ v, q2 = some v → mi_ok v) → ab_Sh sx_sk h → ab_Fr bm_W h0 h → lo_S (fun x => S x ∨ k_5 h0 zr x ∨ k_6 h0 zr x) (mi_f h 11906) → me_E (d + 3) 83 2 [some (.inr (.inr 93)), some (.inl zr), q2] [] h (fun w h' => w = none ∧ ab_Sh sx_sk h' ∧ ab_Fr bm_W h0 h' ∧ lo_S (fun x => S x ∨ k_5 h0 (mi_f h0 7680) x ∨ k_6 h0 (mi_f h0 7680) x) (mi_f h' 11906)) := by
  intro N
  induction N with
  | zero =>
    intro zr q2 h hN z0 z1 z2 o2 hS hF hl
    have e80 : mi_f h 7680 = mi_f h0 7680 := me_f (c := 7680) hF hS0 rfl rfl
    refine mt_ycrB hS ⟨by omega, by omega⟩ o2 ?_ ?_ ?_ ?_ ?_ ?_ ?_ ?_ ?_ ?_ ?_
    · intro b c h1 g1 g2
      have e0 := me_nil g2
      subst e0
      refine ⟨rfl, hS, hF, lo_cg hl (fun x => ?_)⟩
      by_cases cz : zr = mi_f h0 7680
      · rw [cz]
      · have k : ∀ r : Nat, ¬ (r : Int) < zr := fun r => by omega
        have k' : ∀ r : Nat, ¬ (r : Int) < mi_f h0 7680 := fun r => by omega
        constructor
        · rintro (q | ⟨r, r1, -⟩ | ⟨r, r1, -⟩)
          · exact Or.inl q
          · exact absurd r1 (k r)
          · exact absurd r1 (k r)
        · rintro (q | ⟨r, r1, -⟩ | ⟨r, r1, -⟩)
          · exact Or.inl q
          · exact absurd r1 (k' r)
          · exact absurd r1 (k' r)
    all_goals intro b c; exfalso; omega
  | succ N ih =>
    intro zr q2 h hN z0 z1 z2 o2 hS hF hl
    have e80 : mi_f h 7680 = mi_f h0 7680 := me_f (c := 7680) hF hS0 rfl rfl
    have oz : mi_in zr := ⟨by omega, by omega⟩
    have e83 : mi_a h 83 zr.toNat = mi_a h0 83 zr.toNat := me_a (k := 83) hF hS0 rfl rfl
    have e62 : mi_a h 62 zr.toNat = mi_a h0 62 zr.toNat := me_a (k := 62) hF hS0 rfl rfl
    have hpos : ∀ n x, (∀ r : Nat, (r : Int) < n → (r : Int) < mi_f h0 7680) → (S x ∨ k_5 h0 n x ∨ k_6 h0 n x) → 0 < x := by
      intro n x hn hx
      rcases hx with q | ⟨r, r1, -, rfl⟩ | ⟨r, r1, -, rfl⟩
      · exact hp x q
      · have := (hq r (hn r r1)).1
        omega
      · have := (hq r (hn r r1)).1
        omega
    /- the height -/
    have T49 : ∀ h2, zr < mi_f h0 7680 → ab_Sh sx_sk h2 → ab_Fr bm_W h0 h2 → lo_S (fun x => (S x ∨ k_5 h0 zr x ∨ k_6 h0 zr x) ∨ (k_bit (mi_a h0 83 zr.toNat) zr ∧ x = 5 + 16 * mi_a h0 62 zr.toNat)) (mi_f h2 11906) → me_E (d + 3) 83 49 [some (.inr (.inr 93)), some (.inl zr), some (.inl (mi_a h 62 zr.toNat))] [] h2 (fun w h' => w = none ∧ ab_Sh sx_sk h' ∧ ab_Fr bm_W h0 h' ∧ lo_S (fun x => S x ∨ k_5 h0 (mi_f h0 7680) x ∨ k_6 h0 (mi_f h0 7680) x) (mi_f h' 11906)) := by
      intro h2 lt s1 s2 s3
      have b := hq zr.toNat (by omega)
      have op : mi_in (mi_a h 62 zr.toNat) := by rw [e62]; exact ⟨by omega, by omega⟩
      have e82 : mi_a h2 82 zr.toNat = mi_a h0 82 zr.toNat := me_a (k := 82) s2 hS0 rfl rfl
      have T67 : ∀ h3, ab_Sh sx_sk h3 → ab_Fr bm_W h0 h3 → lo_S (fun x => ((S x ∨ k_5 h0 zr x ∨ k_6 h0 zr x) ∨ (k_bit (mi_a h0 83 zr.toNat) zr ∧ x = 5 + 16 * mi_a h0 62 zr.toNat)) ∨ (1000 ≤ mi_a h0 82 zr.toNat ∧ x = 6 + 16 * mi_a h0 62 zr.toNat)) (mi_f h3 11906) → me_E (d + 3) 83 67 [some (.inr (.inr 93)), some (.inl zr), some (.inl (mi_a h 62 zr.toNat))] [] h3 (fun w h' => w = none ∧ ab_Sh sx_sk h' ∧ ab_Fr bm_W h0 h' ∧ lo_S (fun x => S x ∨ k_5 h0 (mi_f h0 7680) x ∨ k_6 h0 (mi_f h0 7680) x) (mi_f h' 11906)) := by
        intro h3 t1 t2 t3
        refine mt_ycrD t1 oz op ⟨by omega, fun h4 g1 g2 => ?_⟩
        have e0 := me_nil g2
        subst e0
        refine ih (zr + 1) _ h4 (by omega) (by omega) (by omega) (by omega) (me_oi op) t1 t2 (lo_cg t3 (fun x => ?_))
        rw [k5_s z0, k6_s z0]
        exact or_5 _ _ _ _ _
      refine mt_ycrC s1 oz op (fun c => by exfalso; omega) (fun c c2 => by exfalso; omega) (fun c c2 c3 => ⟨by omega, fun h3 g1 g2 => ?_⟩) (fun c c2 c3 => ⟨by omega, fun h3 g1 g2 => ?_⟩)
      · have e0 := me_nil g2
        subst e0
        rw [e82] at c3
        refine ⟨_, me_blamec (d := d + 1) (zk := 6) (zp := mi_a h 62 zr.toNat) s1 (by decide) (by decide) (by rw [e62]; exact b.1) (by rw [e62]; exact b.2) (fun x hx => ?_) s3, fun w h4 oww hr => ?_⟩
        · rcases hx with hx | ⟨-, rfl⟩
          · exact hpos zr x (fun r hr => by omega) hx
          · omega
        · obtain ⟨rfl, t1, t2, t3⟩ := hr
          refine T67 h4 t1 (s2.trans t2) (lo_cg t3 (fun x => ?_))
          rw [e62]
          exact ⟨fun q => q.imp id (fun y => ⟨c3, y⟩), fun q => q.imp id (fun y => y.2)⟩
      · have e0 := me_nil g2
        subst e0
        rw [e82] at c3
        exact T67 h3 s1 s2 (lo_cg s3 (fun x => ⟨Or.inl, fun q => q.elim id (fun y => absurd y.1 (by omega))⟩))
    have kb : ∀ b, ((Int32.ofInt (Int32.ofInt (mi_a h 83 zr.toNat) >>> (Int32.ofInt zr &&& 31)).toInt &&& Int32.ofInt 1).toInt = b) = ((Int32.ofInt (Int32.ofInt (mi_a h0 83 zr.toNat) >>> (Int32.ofInt zr &&& 31)).toInt &&& Int32.ofInt 1).toInt = b) := fun b => by rw [e83]
    refine mt_ycrB hS oz o2 ?_ (fun _ _ c => by exfalso; omega) (fun _ _ c => by exfalso; omega) (fun _ _ _ c => by exfalso; omega) (fun _ _ _ c => by exfalso; omega) (fun _ _ _ c => by exfalso; omega) (fun _ _ _ c => by exfalso; omega) (fun _ _ _ _ c => by exfalso; omega) (fun _ _ _ _ c => by exfalso; omega) (fun _ c c1 c2 c3 c4 => ⟨by omega, fun h1 g1 g2 => ?_⟩) (fun _ c c1 c2 c3 c4 => ⟨by omega, fun h1 g1 g2 => ?_⟩)
    · intro b c h1 g1 g2
      have e0 := me_nil g2
      subst e0
      refine ⟨rfl, hS, hF, lo_cg hl (fun x => ?_)⟩
      by_cases cz : zr = mi_f h0 7680
      · rw [cz]
      · have k : ∀ r : Nat, ¬ (r : Int) < zr := fun r => by omega
        have k' : ∀ r : Nat, ¬ (r : Int) < mi_f h0 7680 := fun r => by omega
        constructor
        · rintro (q | ⟨r, r1, -⟩ | ⟨r, r1, -⟩)
          · exact Or.inl q
          · exact absurd r1 (k r)
          · exact absurd r1 (k r)
        · rintro (q | ⟨r, r1, -⟩ | ⟨r, r1, -⟩)
          · exact Or.inl q
          · exact absurd r1 (k' r)
          · exact absurd r1 (k' r)
    · have e0 := me_nil g2
      subst e0
      rw [kb] at c4
      exact T49 h1 (by omega) hS hF (lo_cg hl (fun x => ⟨Or.inl, fun q => q.elim id (fun y => absurd c4 y.1)⟩))
    · have e0 := me_nil g2
      subst e0
      have b := hq zr.toNat (by omega)
      have c4 : k_bit (mi_a h0 83 zr.toNat) zr := fun q => c4 (by rw [kb]; exact q)
      refine ⟨_, me_blamec (d := d + 1) (zk := 5) (zp := mi_a h1 62 zr.toNat) hS (by decide) (by decide) (by rw [e62]; exact b.1) (by rw [e62]; exact b.2) (fun x hx => hpos zr x (fun r hr => by omega) hx) hl, fun w h4 oww hr => ?_⟩
      obtain ⟨rfl, t1, t2, t3⟩ := hr
      refine T49 h4 (by omega) t1 (hF.trans t2) (lo_cg t3 (fun x => ?_))
      rw [e62]
      exact ⟨fun q => q.imp id (fun y => ⟨c4, y⟩), fun q => q.imp id (fun y => y.2)⟩
end BLM
