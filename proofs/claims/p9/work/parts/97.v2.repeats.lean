/-! the class's Checks: parts that are repeated -/
section RPT
variable {d : Nat} {h : sm_H} {S : Int → Prop}
def k_7 (h : sm_H) (n x : Int) : Prop := ∃ u : Nat, (u : Int) < n ∧ (mi_a h 72 u ≠ 0 ∧ mi_a h 89 u = 1) ∧ x = 7 + 16 * mi_a h 73 u
def k_9 (h : sm_H) (n x : Int) : Prop := ∃ u : Nat, (u : Int) < n ∧ (mi_a h 72 u ≠ 0 ∧ mx_b h 90 u &&& mx_b h 91 u ≠ 0) ∧ x = 9 + 16 * mi_a h 73 u
theorem k_step {P : Nat → Prop} {f : Nat → Int} {n x : Int} (n0 : 0 ≤ n) : (∃ u : Nat, (u : Int) < n + 1 ∧ P u ∧ x = f u) ↔ (∃ u : Nat, (u : Int) < n ∧ P u ∧ x = f u) ∨ (P n.toNat ∧ x = f n.toNat) := by
  constructor
  · rintro ⟨r, r1, r2, r3⟩
    by_cases c : (r : Int) < n
    · exact Or.inl ⟨r, c, r2, r3⟩
    · have e : r = n.toNat := by omega
      subst e
      exact Or.inr ⟨r2, r3⟩
  · rintro (⟨r, r1, r2, r3⟩ | ⟨r2, r3⟩)
    · exact ⟨r, by omega, r2, r3⟩
    · exact ⟨n.toNat, by omega, r2, r3⟩
theorem k7_s {n x : Int} (n0 : 0 ≤ n) : k_7 h (n + 1) x ↔ k_7 h n x ∨ ((mi_a h 72 n.toNat ≠ 0 ∧ mi_a h 89 n.toNat = 1) ∧ x = 7 + 16 * mi_a h 73 n.toNat) := k_step n0
theorem k9_s {n x : Int} (n0 : 0 ≤ n) : k_9 h (n + 1) x ↔ k_9 h n x ∨ ((mi_a h 72 n.toNat ≠ 0 ∧ mx_b h 90 n.toNat &&& mx_b h 91 n.toNat ≠ 0) ∧ x = 9 + 16 * mi_a h 73 n.toNat) := k_step n0
def cpx_Q (S : Int → Prop) (h0 : sm_H) (w : Option mi_V) (h' : sm_H) : Prop := w = none ∧ ab_Sh sx_sk h' ∧ ab_Fr bm_W h0 h' ∧ lo_S (fun x => S x ∨ k_7 h0 (mi_f h0 7690) x ∨ k_9 h0 (mi_f h0 7690) x) (mi_f h' 11906)
theorem cpx_loop {h0 : sm_H} (hS0 : ab_Sh sx_sk h0) (hp : ∀ x, S x → 0 < x) (n0 : 0 ≤ mi_f h0 7690) (n1 : mi_f h0 7690 ≤ 60) (hq : ∀ u : Nat, (u : Int) < mi_f h0 7690 → mi_a h0 72 u ≠ 0 → 0 ≤ mi_a h0 73 u ∧ mi_a h0 73 u ≤ 1000) : ∀ (N : Nat) (zu : Int) (q2 : Option mi_V) (h : sm_H), mi_f h0 7690 - zu < N → 0 ≤ zu → zu ≤ mi_f h0 7690 → (∀ v, q2 = some v → mi_ok v) → ab_Sh sx_sk h → ab_Fr bm_W h0 h → lo_S (fun x => S x ∨ k_7 h0 zu x ∨ k_9 h0 zu x) (mi_f h 11906) → me_E (d + 3) 86 2 [some (.inr (.inr 93)), some (.inl zu), q2] [] h (cpx_Q S h0) := by
  intro N
  induction N with
  | zero => intro zu q2 h hN z0 z1; exfalso; omega
  | succ N ih =>
    intro zu q2 h hN z0 z1 o2 hS hF hl
    have e90 : mi_f h 7690 = mi_f h0 7690 := me_f (c := 7690) hF hS0 rfl rfl
    have oz : mi_in zu := ⟨by omega, by omega⟩
    have e72 : mi_a h 72 zu.toNat = mi_a h0 72 zu.toNat := me_a (k := 72) hF hS0 rfl rfl
    have e73 : mi_a h 73 zu.toNat = mi_a h0 73 zu.toNat := me_a (k := 73) hF hS0 rfl rfl
    have e89 : mi_a h 89 zu.toNat = mi_a h0 89 zu.toNat := me_a (k := 89) hF hS0 rfl rfl
    have hpos : ∀ x, zu < mi_f h0 7690 → (S x ∨ k_7 h0 zu x ∨ k_9 h0 zu x) → 0 < x := by
      intro x hz hx
      rcases hx with q | ⟨r, r1, r2, rfl⟩ | ⟨r, r1, r2, rfl⟩
      · exact hp x q
      · have := (hq r (by omega) r2.1).1
        omega
      · have := (hq r (by omega) r2.1).1
        omega
    have T96 : ∀ h3 q2, zu < mi_f h0 7690 → (∀ v, q2 = some v → mi_ok v) → ab_Sh sx_sk h3 → ab_Fr bm_W h0 h3 → lo_S (fun x => ((S x ∨ k_7 h0 zu x ∨ k_9 h0 zu x) ∨ ((mi_a h0 72 zu.toNat ≠ 0 ∧ mi_a h0 89 zu.toNat = 1) ∧ x = 7 + 16 * mi_a h0 73 zu.toNat)) ∨ ((mi_a h0 72 zu.toNat ≠ 0 ∧ mx_b h0 90 zu.toNat &&& mx_b h0 91 zu.toNat ≠ 0) ∧ x = 9 + 16 * mi_a h0 73 zu.toNat)) (mi_f h3 11906) → me_E (d + 3) 86 96 [some (.inr (.inr 93)), some (.inl zu), q2] [] h3 (cpx_Q S h0) := by
      intro h3 q2 lt o2 t1 t2 t3
      refine mt_ycpD t1 oz o2 ⟨by omega, fun h4 g1 g2 => ?_⟩
      have e0 := me_nil g2
      subst e0
      refine ih (zu + 1) _ h4 (by omega) (by omega) (by omega) o2 t1 t2 (lo_cg t3 (fun x => ?_))
      rw [k7_s z0, k9_s z0]
      exact or_5 _ _ _ _ _
    have T61 : ∀ h2, zu < mi_f h0 7690 → mi_a h0 72 zu.toNat ≠ 0 → ab_Sh sx_sk h2 → ab_Fr bm_W h0 h2 → lo_S (fun x => (S x ∨ k_7 h0 zu x ∨ k_9 h0 zu x) ∨ ((mi_a h0 72 zu.toNat ≠ 0 ∧ mi_a h0 89 zu.toNat = 1) ∧ x = 7 + 16 * mi_a h0 73 zu.toNat)) (mi_f h2 11906) → me_E (d + 3) 86 61 [some (.inr (.inr 93)), some (.inl zu), some (.inl (mi_a h 73 zu.toNat))] [] h2 (cpx_Q S h0) := by
      intro h2 lt w0 s1 s2 s3
      have b := hq zu.toNat (by omega) w0
      have op : mi_in (mi_a h 73 zu.toNat) := by rw [e73]; exact ⟨by omega, by omega⟩
      have f90 : mx_b h2 90 zu.toNat = mx_b h0 90 zu.toNat := me_b (k := 90) s2 hS0 rfl rfl
      have f91 : mx_b h2 91 zu.toNat = mx_b h0 91 zu.toNat := me_b (k := 91) s2 hS0 rfl rfl
      refine mt_ycpC s1 oz op (fun c => by exfalso; omega) (fun c => by exfalso; omega) (fun c c2 => by exfalso; omega) (fun c c2 => by exfalso; omega) (fun c c2 c3 => ⟨by omega, fun h3 g1 g2 => ?_⟩) (fun c c2 c3 => ⟨by omega, fun h3 g1 g2 => ?_⟩)
      · have e0 := me_nil g2
        subst e0
        have c3 := lg_eq.mp c3
        rw [f90, f91] at c3
        exact T96 h3 _ lt (me_oi op) s1 s2 (lo_cg s3 (fun x => ⟨Or.inl, fun q => q.elim id (fun y => absurd c3 y.1.2)⟩))
      · have e0 := me_nil g2
        subst e0
        have c3 : mx_b h0 90 zu.toNat &&& mx_b h0 91 zu.toNat ≠ 0 := fun q => c3 (lg_eq.mpr (by rw [f90, f91]; exact q))
        refine ⟨_, me_blamec (d := d + 1) (zk := 9) (zp := mi_a h 73 zu.toNat) s1 (by decide) (by decide) (by rw [e73]; exact b.1) (by rw [e73]; exact b.2) (fun x hx => ?_) s3, fun w h4 oww hr => ?_⟩
        · rcases hx with hx | ⟨-, rfl⟩
          · exact hpos x lt hx
          · omega
        · obtain ⟨rfl, t1, t2, t3⟩ := hr
          refine T96 h4 _ lt (me_oi op) t1 (s2.trans t2) (lo_cg t3 (fun x => ?_))
          rw [e73]
          exact ⟨fun q => q.imp id (fun y => ⟨⟨w0, c3⟩, y⟩), fun q => q.imp id (fun y => y.2)⟩
    refine mt_ycpB hS oz o2 (fun _ c h1 g1 g2 => ?_) (fun _ _ c => by exfalso; omega) (fun _ _ _ c => by exfalso; omega) (fun _ c c1 c2 c3 => ⟨by omega, fun h1 g1 g2 => ?_⟩) (fun _ c c1 c2 c3 c4 => ⟨by omega, fun h1 g1 g2 => ?_⟩) (fun _ c c1 c2 c3 c4 => ⟨by omega, fun h1 g1 g2 => ?_⟩)
    · have e0 := me_nil g2
      subst e0
      have ez : zu = mi_f h0 7690 := by omega
      rw [ez] at hl
      exact ⟨rfl, hS, hF, hl⟩
    · have e0 := me_nil g2
      subst e0
      rw [e72] at c3
      exact T96 h1 _ (by omega) o2 hS hF (lo_cg hl (fun x => ⟨fun q => Or.inl (Or.inl q), fun q => q.elim (fun q => q.elim id (fun y => absurd c3 y.1.1)) (fun y => absurd c3 y.1.1)⟩))
    · have e0 := me_nil g2
      subst e0
      rw [e72] at c3
      rw [e89] at c4
      exact T61 h1 (by omega) c3 hS hF (lo_cg hl (fun x => ⟨Or.inl, fun q => q.elim id (fun y => absurd y.1.2 c4)⟩))
    · have e0 := me_nil g2
      subst e0
      rw [e72] at c3
      rw [e89] at c4
      have b := hq zu.toNat (by omega) c3
      refine ⟨_, me_blamec (d := d + 1) (zk := 7) (zp := mi_a h1 73 zu.toNat) hS (by decide) (by decide) (by rw [e73]; exact b.1) (by rw [e73]; exact b.2) (fun x hx => hpos x (by omega) hx) hl, fun w h4 oww hr => ?_⟩
      obtain ⟨rfl, t1, t2, t3⟩ := hr
      refine T61 h4 (by omega) c3 t1 (hF.trans t2) (lo_cg t3 (fun x => ?_))
      rw [e73]
      exact ⟨fun q => q.imp id (fun y => ⟨⟨c3, c4⟩, y⟩), fun q => q.imp id (fun y => y.2)⟩
theorem me_checkRepeats {h0 : sm_H} (hS0 : ab_Sh sx_sk h0) (hp : ∀ x, S x → 0 < x) (n0 : 0 ≤ mi_f h0 7690) (n1 : mi_f h0 7690 ≤ 60) (hq : ∀ u : Nat, (u : Int) < mi_f h0 7690 → mi_a h0 72 u ≠ 0 → 0 ≤ mi_a h0 73 u ∧ mi_a h0 73 u ≤ 1000) (hl : lo_S S (mi_f h0 11906)) : me_E (d + 3) 86 0 [some (.inr (.inr 93)), none, none] [] h0 (cpx_Q S h0) := by
  refine mt_ycpA hS0 (fun h1 g1 g2 => ?_)
  have e0 := me_nil g2
  subst e0
  refine cpx_loop hS0 hp n0 n1 hq 61 0 none h1 (by omega) (by decide) n0 me_on hS0 ab_Fr.refl (lo_cg hl (fun x => ⟨Or.inl, fun q => q.elim id (fun q => q.elim (fun ⟨r, r1, _⟩ => by omega) (fun ⟨r, r1, _⟩ => by omega))⟩))
theorem me_checkRules {h0 : sm_H} (hS0 : ab_Sh sx_sk h0) (hp : ∀ x, S x → 0 < x) (n1 : mi_f h0 7680 ≤ 10) (hq : ∀ r : Nat, (r : Int) < mi_f h0 7680 → 0 ≤ mi_a h0 62 r ∧ mi_a h0 62 r ≤ 1000) (hl : lo_S S (mi_f h0 11906)) : me_E (d + 3) 83 0 [some (.inr (.inr 93)), none, none] [] h0 (fun w h' => w = none ∧ ab_Sh sx_sk h' ∧ ab_Fr bm_W h0 h' ∧ lo_S (fun x => S x ∨ k_5 h0 (mi_f h0 7680) x ∨ k_6 h0 (mi_f h0 7680) x) (mi_f h' 11906)) := by
  refine mt_ycrA hS0 (fun h1 g1 g2 => ?_)
  have e0 := me_nil g2
  subst e0
  refine crx_loop hS0 hp n1 hq 11 0 none h1 (by omega) (by decide) (by decide) (Or.inl rfl) me_on hS0 ab_Fr.refl (lo_cg hl (fun x => ⟨Or.inl, fun q => q.elim id (fun q => q.elim (fun ⟨r, r1, _⟩ => by omega) (fun ⟨r, r1, _⟩ => by omega))⟩))
end RPT
