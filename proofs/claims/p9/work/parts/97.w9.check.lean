/-! the reference's check, exactly -/
def j_5 (h : sm_H) (n x : Int) : Prop := ∃ r : Nat, (r : Int) < n ∧ tb (b64 (mi_a h 116 r)) r = true ∧ x = 5 + 16 * mi_a h 113 r
def j_6 (h : sm_H) (n x : Int) : Prop := ∃ r : Nat, (r : Int) < n ∧ 1000 ≤ mi_a h 144 (mi_a h 114 r).toNat ∧ x = 6 + 16 * mi_a h 113 r
def j_7 (h : sm_H) (n x : Int) : Prop := ∃ u : Nat, (u : Int) < n ∧ (0 < mi_a h 122 u ∧ mi_a h 131 u ≠ 0) ∧ x = 7 + 16 * mi_a h 123 u
def j_9 (h : sm_H) (n x : Int) : Prop := ∃ u : Nat, (u : Int) < n ∧ (0 < mi_a h 122 u ∧ mx_b h 134 u &&& mx_b h 137 u ≠ 0) ∧ x = 9 + 16 * mi_a h 123 u
def jd (h : sm_H) (F a : Nat) : Int64 := mx_b h 135 a ||| (if mi_a h 132 a ≠ 0 then mx_b h 138 F else 0)
def ra_l (g : wk_g) : Nat → Int → List Int
  | 0, _ => []
  | m + 1, a => a :: ra_l g m (g 128 a.toNat)
def ra_L (h : sm_H) (F : Nat) : List Int := ra_l (mi_a h) (mi_a h 130 F).toNat (mi_a h 129 F)
def j_8 (h : sm_H) (n x : Int) : Prop := ∃ F : Nat, (F : Int) < n ∧ k8l (jd h F) (mi_a h 127) (ra_L h F) 0 x
def j_pl (h : sm_H) : Prop := (∀ r : Nat, (r : Int) < mi_f h 13961 → 0 ≤ mi_a h 113 r ∧ mi_a h 113 r ≤ 1000) ∧ (∀ u : Nat, (u : Int) < mi_f h 13963 → 0 < mi_a h 122 u → 0 ≤ mi_a h 123 u ∧ mi_a h 123 u ≤ 1000) ∧ ∀ F : Nat, (F : Int) < mi_f h 13965 → ∀ j : Nat, (j : Int) < mi_a h 130 F → 0 ≤ mi_a h 127 (wk_alt (mi_a h) j (mi_a h 129 F)).toNat ∧ mi_a h 127 (wk_alt (mi_a h) j (mi_a h 129 F)).toNat ≤ 1000
theorem j8_s {h : sm_H} {n x : Int} (n0 : 0 ≤ n) : j_8 h (n + 1) x ↔ j_8 h n x ∨ k8l (jd h n.toNat) (mi_a h 127) (ra_L h n.toNat) 0 x := by
  constructor
  · rintro ⟨F, hF, k⟩
    by_cases c : (F : Int) = n
    · have e : F = n.toNat := by omega
      rw [e] at k
      exact Or.inr k
    · exact Or.inl ⟨F, by omega, k⟩
  · rintro (⟨F, hF, k⟩ | k)
    · exact ⟨F, by omega, k⟩
    · exact ⟨n.toNat, by omega, k⟩
def ck_X (T : Int → Prop) (h : sm_H) (w : Option mi_V) (h' : sm_H) : Prop := h' = h ∧ ∃ z, w = some (.inl z) ∧ mi_in z ∧ lo_S T z
section CKX
variable {d : Nat} {h : sm_H} {Y : wk_Y} {S : Int → Prop}
theorem me_leastx {zb zf zp : Int} (hS : ab_Sh sx_sk h) (ob : mi_in zb) (f0 : 0 ≤ zf) (f1 : zf ≤ 16) (p0 : 0 ≤ zp) (p1 : zp ≤ 1000) (hp : ∀ x, S x → 0 < x) (hl : lo_S S zb) : me_E d 202 0 [some (.inr (.inr 109)), some (.inl zb), some (.inl zf), some (.inl zp), none] [] h (ck_X (fun x => S x ∨ x = zf + 16 * zp) h) := by
  refine mt_leA hS ob ⟨by omega, by omega⟩ ⟨by omega, by omega⟩ ?_ ?_ ?_
  · intro c
    refine ⟨⟨⟨by omega, by omega⟩, ⟨by omega, by omega⟩⟩, fun h1 g1 g2 => ⟨me_nil g2, _, rfl, ⟨by omega, by omega⟩, lo_add hp hl (Or.inl ⟨Or.inl c, rfl⟩)⟩⟩
  · intro c1 c2
    refine ⟨⟨⟨by omega, by omega⟩, ⟨by omega, by omega⟩⟩, fun h1 g1 g2 => ⟨me_nil g2, _, rfl, ob, lo_add hp hl (Or.inr ⟨⟨c1, c2⟩, rfl⟩)⟩⟩
  · intro c1 c2
    refine ⟨⟨⟨by omega, by omega⟩, ⟨by omega, by omega⟩⟩, fun h1 g1 g2 => ⟨me_nil g2, _, rfl, ⟨by omega, by omega⟩, lo_add hp hl (Or.inl ⟨Or.inr c2, rfl⟩)⟩⟩
theorem me_directorsx {F a : Int} (hS : ab_Sh sx_sk h) (f0 : 0 ≤ F) (f1 : F < 80) (a0 : 0 ≤ a) (a1 : a < 80) : me_E d 203 0 [some (.inr (.inr 109)), some (.inl F), some (.inl a)] [] h (fun w h' => h' = h ∧ w = some (.inr (.inl (jd h F.toNat a.toNat)))) := by
  refine mt_dvA hS ⟨by omega, by omega⟩ ⟨by omega, by omega⟩ ?_ ?_
  · intro c
    refine ⟨⟨a0, a1⟩, fun h1 g1 g2 => ⟨me_nil g2, ?_⟩⟩
    unfold jd
    rw [if_neg (fun q => q c)]
    rfl
  · intro c
    refine ⟨⟨⟨a0, a1⟩, ⟨f0, f1⟩⟩, fun h1 g1 g2 => ⟨me_nil g2, ?_⟩⟩
    unfold jd
    rw [if_pos c]
theorem ckx167 (hL : sy_L h Y) (hS : ab_Sh sx_sk h) (hP : j_pl h) (hp : ∀ x, S x → 0 < x) : ∀ (N : Nat) (zb zr : Int) (q3 q4 q5 q6 q7 : Option mi_V), 80 - zr < N → 0 ≤ zr → zr ≤ mi_f h 13965 → mi_in zb → (∀ v, q3 = some v → mi_ok v) → (∀ v, q4 = some v → mi_ok v) → (∀ v, q5 = some v → mi_ok v) → (∀ v, q6 = some v → mi_ok v) → (∀ v, q7 = some v → mi_ok v) → lo_S (fun x => S x ∨ j_8 h zr x) zb → (∀ x, j_8 h zr x → 0 < x) → me_E (d + 1) 201 167 [some (.inr (.inr 109)), some (.inl zb), some (.inl zr), q3, q4, q5, q6, q7] [] h (ck_X (fun x => S x ∨ j_8 h (mi_f h 13965) x) h) := by
  have b80 := me_fb (c := 13965) hS rfl
  intro N
  induction N with
  | zero => intro zb zr q3 q4 q5 q6 q7 hN _ _; exfalso; omega
  | succ N ih =>
    intro zb zr q3 q4 q5 q6 q7 hN r0 r1 ob o3 o4 o5 o6 o7 hl hp8
    have or_ : mi_in zr := ⟨by omega, by omega⟩
    refine mt_ckJ hS ob or_ o3 o4 o5 o6 o7 ?_ ?_
    · intro b c h1 g1 g2
      have e := me_nil g2
      subst e
      have : zr = mi_f h1 13965 := by omega
      rw [this] at hl
      exact ⟨rfl, _, rfl, ob, hl⟩
    · intro b c
      refine ⟨by omega, fun h1 g1 g2 => ?_⟩
      have e := me_nil g2
      subst e
      have hfz : zr < wk_f Y := by rw [hL.2.2.1]; exact c
      obtain ⟨-, -, c1, c2, -, c3⟩ := hL.1.2.2.2 zr r0 hfz
      have pl := hP.2.2 zr.toNat (by omega)
      have lp : ∀ (m j : Nat) (zb za : Int) (zx : Int64) (q6 q7 : Option mi_V) (T : Int → Prop), j + m = (mi_a h1 130 zr.toNat).toNat → za = wk_alt (mi_a h1) j (mi_a h1 129 zr.toNat) → mi_in zb → mi_in za → (∀ v, q6 = some v → mi_ok v) → (∀ v, q7 = some v → mi_ok v) → lo_S T zb → (∀ x, T x → 0 < x) → (∀ x, (T x ∨ k8l (jd h1 zr.toNat) (mi_a h1 127) (ra_l (mi_a h1) m za) zx x) ↔ (S x ∨ j_8 h1 (zr + 1) x)) → me_E (d + 1) 201 185 [some (.inr (.inr 109)), some (.inl zb), some (.inl zr), some (.inr (.inl zx)), none, some (.inl za), q6, q7] [] h1 (ck_X (fun x => S x ∨ j_8 h1 (mi_f h1 13965) x) h1) := by
        intro m
        induction m with
        | zero =>
          intro j zb za zx q6 q7 T hj hza ob oa o6 o7 hT hT0 hE
          have neg : za < 0 := by
            have ej : j = (mi_a h1 130 zr.toNat).toNat := by omega
            rw [← ej, ← hza] at c2
            exact c2
          refine mt_ckK g1 ob or_ oa o6 o7 ?_ ?_
          · intro c
            refine ⟨by omega, fun h2 s1 s2 => ?_⟩
            have e := me_nil s2
            subst e
            have hE' : ∀ x, T x ↔ (S x ∨ j_8 h2 (zr + 1) x) := fun x => ⟨fun q => (hE x).mp (Or.inl q), fun q => ((hE x).mpr q).elim id (fun q => q.elim)⟩
            exact ih zb (zr + 1) _ _ _ _ _ (by omega) (by omega) (by omega) ob (fun v e => by cases e; trivial) me_on (me_oi oa) o6 o7 (lo_cg hT hE') (fun x q => hT0 x ((hE' x).mpr (Or.inr q)))
          · intro cz; exfalso; omega
        | succ m im =>
          intro j zb za zx q6 q7 T hj hza ob oa o6 o7 hT hT0 hE
          have lt : (j : Int) < mi_a h1 130 zr.toNat := by omega
          obtain ⟨x1, x2, -⟩ := c3 j lt
          have pj := pl j lt
          rw [← hza] at x1 x2 pj
          refine mt_ckK g1 ob or_ oa o6 o7 ?_ ?_
          · intro c; exfalso; omega
          · intro cz h2 s1 s2
            have e := me_nil s2
            subst e
            have fin : ∀ (zb : Int) (T' : Int → Prop), mi_in zb → lo_S T' zb → (∀ x, T' x → 0 < x) → (∀ x, (T' x ∨ k8l (jd h2 zr.toNat) (mi_a h2 127) (ra_l (mi_a h2) m (mi_a h2 128 za.toNat)) (zx ||| jd h2 zr.toNat za.toNat) x) ↔ (S x ∨ j_8 h2 (zr + 1) x)) → me_E (d + 1) 201 223 [some (.inr (.inr 109)), some (.inl zb), some (.inl zr), some (.inr (.inl zx)), none, some (.inl za), some (.inr (.inl (jd h2 zr.toNat za.toNat))), none] [] h2 (ck_X (fun x => S x ∨ j_8 h2 (mi_f h2 13965) x) h2) := fun zb T' ob k1 k2 k3 => by
              refine mt_ckN s1 ob or_ oa ⟨by omega, fun h3 t1 t2 => ?_⟩
              have e := me_nil t2
              subst e
              exact im (j + 1) zb _ _ _ _ T' (by omega) (by rw [wk_alt_succ, hza]) ob (mi_inT _) (fun v e => by cases e; trivial) me_on k1 k2 k3
            refine ⟨_, me_directorsx s1 r0 (by omega) cz x2, fun w h3 ow hq => ?_⟩
            obtain ⟨e, rfl⟩ := hq
            subst e
            refine mt_ckL s1 ob or_ oa o6 o7 ?_ ?_
            · intro c4 h4 t1 t2
              have e := me_nil t2
              subst e
              have z : zx &&& jd h4 zr.toNat za.toNat = 0 := lg_eq.mp c4
              refine fin _ T ob hT hT0 (fun x => ?_)
              rw [← hE x]
              show _ ↔ (T x ∨ ((jd h4 zr.toNat za.toNat &&& zx ≠ 0) ∧ x = 8 + 16 * mi_a h4 127 za.toNat) ∨ k8l (jd h4 zr.toNat) (mi_a h4 127) (ra_l (mi_a h4) m (mi_a h4 128 za.toNat)) (zx ||| jd h4 zr.toNat za.toNat) x)
              rw [Int64.and_comm] at z
              exact ⟨fun q => q.elim Or.inl (fun q => Or.inr (Or.inr q)), fun q => q.elim Or.inl (fun q => q.elim (fun q => absurd z q.1) Or.inr)⟩
            · intro c4
              refine ⟨by omega, fun h4 t1 t2 => ?_⟩
              have e := me_nil t2
              subst e
              have z : zx &&& jd h4 zr.toNat za.toNat ≠ 0 := fun q => c4 (lg_eq.mpr q)
              refine ⟨_, me_leastx t1 ob (by decide) (by decide) pj.1 pj.2 hT0 hT, fun w h5 ow hq => ?_⟩
              obtain ⟨e, z1, rfl, oz, lz⟩ := hq
              subst e
              refine mt_ckM t1 ob or_ oa oz ?_
              intro h6 u1 u2
              have e := me_nil u2
              subst e
              refine fin _ _ oz lz (fun x q => q.elim (hT0 x) (fun q => by omega)) (fun x => ?_)
              rw [← hE x]
              show ((T x ∨ x = 8 + 16 * mi_a h6 127 za.toNat) ∨ _) ↔ (T x ∨ ((jd h6 zr.toNat za.toNat &&& zx ≠ 0) ∧ x = 8 + 16 * mi_a h6 127 za.toNat) ∨ k8l (jd h6 zr.toNat) (mi_a h6 127) (ra_l (mi_a h6) m (mi_a h6 128 za.toNat)) (zx ||| jd h6 zr.toNat za.toNat) x)
              rw [Int64.and_comm] at z
              exact ⟨fun q => q.elim (fun q => q.elim Or.inl (fun q => Or.inr (Or.inl ⟨z, q⟩))) (fun q => Or.inr (Or.inr q)), fun q => q.elim (fun q => Or.inl (Or.inl q)) (fun q => q.elim (fun q => Or.inl (Or.inr q.2)) Or.inr)⟩
      refine lp (mi_a h1 130 zr.toNat).toNat 0 zb _ _ _ _ (fun x => S x ∨ j_8 h1 zr x) (by omega) rfl ob (mi_inT _) o6 o7 hl (fun x q => q.elim (hp x) (hp8 x)) (fun x => ?_)
      rw [j8_s r0]
      show ((S x ∨ j_8 h1 zr x) ∨ k8l (jd h1 zr.toNat) (mi_a h1 127) (ra_L h1 zr.toNat) 0 x) ↔ _
      rw [or_assoc]
theorem ckx78 (hL : sy_L h Y) (hS : ab_Sh sx_sk h) (hP : j_pl h) (hp : ∀ x, S x → 0 < x) : ∀ (N : Nat) (zb zr : Int) (q3 q4 q5 q6 q7 : Option mi_V), 60 - zr < N → 0 ≤ zr → zr ≤ mi_f h 13963 → mi_in zb → (∀ v, q3 = some v → mi_ok v) → (∀ v, q4 = some v → mi_ok v) → (∀ v, q5 = some v → mi_ok v) → (∀ v, q6 = some v → mi_ok v) → (∀ v, q7 = some v → mi_ok v) → lo_S (fun x => S x ∨ j_7 h zr x ∨ j_9 h zr x) zb → me_E (d + 1) 201 78 [some (.inr (.inr 109)), some (.inl zb), some (.inl zr), q3, q4, q5, q6, q7] [] h (ck_X (fun x => (S x ∨ j_7 h (mi_f h 13963) x ∨ j_9 h (mi_f h 13963) x) ∨ j_8 h (mi_f h 13965) x) h) := by
  have b60 := me_fb (c := 13963) hS rfl
  have b80 := me_fb (c := 13965) hS rfl
  have p7 : ∀ (n x : Int), n ≤ mi_f h 13963 → (S x ∨ j_7 h n x ∨ j_9 h n x) → 0 < x := by
    rintro n x hn (q | ⟨u, u1, u2, u3⟩ | ⟨u, u1, u2, u3⟩)
    · exact hp x q
    · have := (hP.2.1 u (by omega) u2.1).1
      omega
    · have := (hP.2.1 u (by omega) u2.1).1
      omega
  intro N
  induction N with
  | zero => intro zb zr q3 q4 q5 q6 q7 hN _ _; exfalso; omega
  | succ N ih =>
    intro zb zr q3 q4 q5 q6 q7 hN r0 r1 ob o3 o4 o5 o6 o7 hl
    have or_ : mi_in zr := ⟨by omega, by omega⟩
    have s7 : ∀ x, j_7 h (zr + 1) x ↔ j_7 h zr x ∨ ((0 < mi_a h 122 zr.toNat ∧ mi_a h 131 zr.toNat ≠ 0) ∧ x = 7 + 16 * mi_a h 123 zr.toNat) := fun x => k_step r0
    have s9 : ∀ x, j_9 h (zr + 1) x ↔ j_9 h zr x ∨ ((0 < mi_a h 122 zr.toNat ∧ mx_b h 134 zr.toNat &&& mx_b h 137 zr.toNat ≠ 0) ∧ x = 9 + 16 * mi_a h 123 zr.toNat) := fun x => k_step r0
    have nx : ∀ zb, zr < mi_f h 13963 → mi_in zb → lo_S (fun x => S x ∨ j_7 h (zr + 1) x ∨ j_9 h (zr + 1) x) zb → me_E (d + 1) 201 78 [some (.inr (.inr 109)), some (.inl zb), some (.inl (zr + 1)), q3, q4, q5, q6, q7] [] h (ck_X (fun x => (S x ∨ j_7 h (mi_f h 13963) x ∨ j_9 h (mi_f h 13963) x) ∨ j_8 h (mi_f h 13965) x) h) := fun zb lt ob hl => ih zb (zr + 1) _ _ _ _ _ (by omega) (by omega) (by omega) ob o3 o4 o5 o6 o7 hl
    have g118 : ∀ zb, zr < mi_f h 13963 → mi_in zb → lo_S (fun x => S x ∨ j_7 h (zr + 1) x ∨ j_9 h zr x) zb → me_E (d + 1) 201 118 [some (.inr (.inr 109)), some (.inl zb), some (.inl zr), q3, q4, q5, q6, q7] [] h (ck_X (fun x => (S x ∨ j_7 h (mi_f h 13963) x ∨ j_9 h (mi_f h 13963) x) ∨ j_8 h (mi_f h 13965) x) h) := fun zb lt ob hl => by
      have same : ¬ (0 < mi_a h 122 zr.toNat ∧ mx_b h 134 zr.toNat &&& mx_b h 137 zr.toNat ≠ 0) → lo_S (fun x => S x ∨ j_7 h (zr + 1) x ∨ j_9 h (zr + 1) x) zb := fun c => lo_cg hl (fun x => by
        rw [s9]
        exact ⟨fun q => q.elim Or.inl (fun q => Or.inr (q.elim Or.inl (fun q => Or.inr (Or.inl q)))), fun q => q.elim Or.inl (fun q => Or.inr (q.elim Or.inl (fun q => q.elim Or.inr (fun q => absurd q.1 c))))⟩)
      refine mt_ckH hS ob or_ o3 o4 o5 o6 o7 ?_ ?_ ?_
      · intro c
        refine ⟨by omega, fun h1 g1 g2 => ?_⟩
        have e := me_nil g2
        subst e
        exact nx _ lt ob (same (fun q => by omega))
      · intro c1 c2
        refine ⟨by omega, fun h1 g1 g2 => ?_⟩
        have e := me_nil g2
        subst e
        exact nx _ lt ob (same (fun q => q.2 (lg_eq.mp c2)))
      · intro c1 c2
        refine ⟨by omega, fun h1 g1 g2 => ?_⟩
        have e := me_nil g2
        subst e
        have pl := hP.2.1 zr.toNat (by omega) c1
        refine ⟨_, me_leastx g1 ob (by decide) (by decide) pl.1 pl.2 (fun x q => ?_) hl, fun w h5 ow hq => ?_⟩
        · rcases q with q | q | q
          · exact hp x q
          · exact p7 (zr + 1) x (by omega) (Or.inr (Or.inl q))
          · exact p7 zr x (by omega) (Or.inr (Or.inr q))
        · obtain ⟨e, z, rfl, oz, lz⟩ := hq
          subst e
          refine mt_ckI g1 ob or_ oz o3 o4 o5 o6 o7 ⟨by omega, fun h2 t1 t2 => ?_⟩
          have e := me_nil t2
          subst e
          refine nx _ lt oz (lo_cg lz (fun x => ?_))
          rw [s9]
          have y : 0 < mi_a h2 122 zr.toNat ∧ mx_b h2 134 zr.toNat &&& mx_b h2 137 zr.toNat ≠ 0 := ⟨c1, fun q => c2 (lg_eq.mpr q)⟩
          exact ⟨fun q => q.elim (fun q => q.elim Or.inl (fun q => Or.inr (q.elim Or.inl (fun q => Or.inr (Or.inl q))))) (fun q => Or.inr (Or.inr (Or.inr ⟨y, q⟩))), fun q => q.elim (fun q => Or.inl (Or.inl q)) (fun q => q.elim (fun q => Or.inl (Or.inr (Or.inl q))) (fun q => q.elim (fun q => Or.inl (Or.inr (Or.inr q))) (fun q => Or.inr q.2)))⟩
    have same7 : ¬ (0 < mi_a h 122 zr.toNat ∧ mi_a h 131 zr.toNat ≠ 0) → lo_S (fun x => S x ∨ j_7 h (zr + 1) x ∨ j_9 h zr x) zb := fun c => lo_cg hl (fun x => by
      rw [s7]
      exact ⟨fun q => q.elim Or.inl (fun q => Or.inr (q.elim (fun q => Or.inl (Or.inl q)) Or.inr)), fun q => q.elim Or.inl (fun q => Or.inr (q.elim (fun q => q.elim Or.inl (fun q => absurd q.1 c)) Or.inr))⟩)
    refine mt_ckF hS ob or_ o3 o4 o5 o6 o7 ?_ ?_ ?_ ?_
    · intro b c h1 g1 g2
      have e := me_nil g2
      subst e
      have : zr = mi_f h1 13963 := by omega
      rw [this] at hl
      exact ckx167 (S := fun x => S x ∨ j_7 h1 (mi_f h1 13963) x ∨ j_9 h1 (mi_f h1 13963) x) hL g1 hP (fun x q => p7 _ x (Int.le_refl _) q) 90 _ 0 _ _ _ _ _ (by decide) (by decide) b80.1 ob o3 o4 o5 o6 o7 (lo_cg hl (fun x => ⟨Or.inl, fun q => q.elim id (fun ⟨F, hF, _⟩ => by omega)⟩)) (fun x ⟨F, hF, _⟩ => by omega)
    · intro b c1 c2
      refine ⟨by omega, fun h1 g1 g2 => ?_⟩
      have e := me_nil g2
      subst e
      exact g118 _ c1 ob (same7 (fun q => by omega))
    · intro b c1 c2 c3
      refine ⟨by omega, fun h1 g1 g2 => ?_⟩
      have e := me_nil g2
      subst e
      exact g118 _ c1 ob (same7 (fun q => q.2 c3))
    · intro b c1 c2 c3
      refine ⟨by omega, fun h1 g1 g2 => ?_⟩
      have e := me_nil g2
      subst e
      have pl := hP.2.1 zr.toNat (by omega) c2
      refine ⟨_, me_leastx g1 ob (by decide) (by decide) pl.1 pl.2 (fun x q => p7 zr x (by omega) q) hl, fun w h5 ow hq => ?_⟩
      obtain ⟨e, z, rfl, oz, lz⟩ := hq
      subst e
      refine mt_ckG g1 ob or_ oz o3 o4 o5 o6 o7 ?_
      intro h2 t1 t2
      have e := me_nil t2
      subst e
      refine g118 _ c1 oz (lo_cg lz (fun x => ?_))
      rw [s7]
      have y : 0 < mi_a h2 122 zr.toNat ∧ mi_a h2 131 zr.toNat ≠ 0 := ⟨c2, c3⟩
      exact ⟨fun q => q.elim (fun q => q.elim Or.inl (fun q => Or.inr (q.elim (fun q => Or.inl (Or.inl q)) Or.inr))) (fun q => Or.inr (Or.inl (Or.inr ⟨y, q⟩))), fun q => q.elim (fun q => Or.inl (Or.inl q)) (fun q => q.elim (fun q => q.elim (fun q => Or.inl (Or.inr (Or.inl q))) (fun q => Or.inr q.2)) (fun q => Or.inl (Or.inr (Or.inr q))))⟩
def j_all (h : sm_H) (x : Int) : Prop := ((j_5 h (mi_f h 13961) x ∨ j_6 h (mi_f h 13961) x) ∨ j_7 h (mi_f h 13963) x ∨ j_9 h (mi_f h 13963) x) ∨ j_8 h (mi_f h 13965) x
theorem ckx4 (hL : sy_L h Y) (hS : ab_Sh sx_sk h) (hP : j_pl h) : ∀ (N : Nat) (zb zr : Int) (q3 q4 q5 q6 q7 : Option mi_V), 10 - zr < N → 0 ≤ zr → zr ≤ mi_f h 13961 → mi_in zb → (∀ v, q3 = some v → mi_ok v) → (∀ v, q4 = some v → mi_ok v) → (∀ v, q5 = some v → mi_ok v) → (∀ v, q6 = some v → mi_ok v) → (∀ v, q7 = some v → mi_ok v) → lo_S (fun x => j_5 h zr x ∨ j_6 h zr x) zb → me_E (d + 1) 201 4 [some (.inr (.inr 109)), some (.inl zb), some (.inl zr), q3, q4, q5, q6, q7] [] h (ck_X (j_all h) h) := by
  have b10 := me_fb (c := 13961) hS rfl
  have b60 := me_fb (c := 13963) hS rfl
  have h80 := hL.1.2.1
  have p5 : ∀ (n m x : Int), n ≤ mi_f h 13961 → m ≤ mi_f h 13961 → (j_5 h n x ∨ j_6 h m x) → 0 < x := by
    rintro n m x hn hm (⟨u, u1, u2, u3⟩ | ⟨u, u1, u2, u3⟩)
    · have := (hP.1 u (by omega)).1
      omega
    · have := (hP.1 u (by omega)).1
      omega
  intro N
  induction N with
  | zero => intro zb zr q3 q4 q5 q6 q7 hN _ _; exfalso; omega
  | succ N ih =>
    intro zb zr q3 q4 q5 q6 q7 hN r0 r1 ob o3 o4 o5 o6 o7 hl
    have or_ : mi_in zr := ⟨by omega, by omega⟩
    have s5 : ∀ x, j_5 h (zr + 1) x ↔ j_5 h zr x ∨ (tb (b64 (mi_a h 116 zr.toNat)) zr.toNat = true ∧ x = 5 + 16 * mi_a h 113 zr.toNat) := fun x => k_step (P := fun r => tb (b64 (mi_a h 116 r)) r = true) r0
    have s6 : ∀ x, j_6 h (zr + 1) x ↔ j_6 h zr x ∨ (1000 ≤ mi_a h 144 (mi_a h 114 zr.toNat).toNat ∧ x = 6 + 16 * mi_a h 113 zr.toNat) := fun x => k_step (P := fun r => 1000 ≤ mi_a h 144 (mi_a h 114 r).toNat) r0
    have nx : ∀ zb, zr < mi_f h 13961 → mi_in zb → lo_S (fun x => j_5 h (zr + 1) x ∨ j_6 h (zr + 1) x) zb → me_E (d + 1) 201 4 [some (.inr (.inr 109)), some (.inl zb), some (.inl (zr + 1)), q3, q4, q5, q6, q7] [] h (ck_X (j_all h) h) := fun zb lt ob hl => ih zb (zr + 1) _ _ _ _ _ (by omega) (by omega) (by omega) ob o3 o4 o5 o6 o7 hl
    have g39 : ∀ zb, zr < mi_f h 13961 → mi_in zb → lo_S (fun x => j_5 h (zr + 1) x ∨ j_6 h zr x) zb → me_E (d + 1) 201 39 [some (.inr (.inr 109)), some (.inl zb), some (.inl zr), q3, q4, q5, q6, q7] [] h (ck_X (j_all h) h) := fun zb lt0 ob hl => by
      have hr := hL.2.2.2.2 zr r0 lt0
      have pl := hP.1 zr.toNat (by omega)
      refine mt_ckD hS ob or_ o3 o4 o5 o6 o7 ?_ ?_
      · intro c
        refine ⟨by omega, fun h1 g1 g2 => ?_⟩
        have e := me_nil g2
        subst e
        refine nx _ lt0 ob (lo_cg hl (fun x => ?_))
        rw [s6]
        exact ⟨fun q => q.elim Or.inl (fun q => Or.inr (Or.inl q)), fun q => q.elim Or.inl (fun q => q.elim Or.inr (fun q => by have := q.1; omega))⟩
      · intro c
        refine ⟨by omega, fun h1 g1 g2 => ?_⟩
        have e := me_nil g2
        subst e
        refine ⟨_, me_leastx g1 ob (by decide) (by decide) pl.1 pl.2 (fun x q => p5 (zr + 1) zr x (by omega) (by omega) q) hl, fun w h5 ow hq => ?_⟩
        obtain ⟨e, z, rfl, oz, lz⟩ := hq
        subst e
        refine mt_ckE g1 ob or_ oz o3 o4 o5 o6 o7 ⟨by omega, fun h2 t1 t2 => ?_⟩
        have e := me_nil t2
        subst e
        refine nx _ lt0 oz (lo_cg lz (fun x => ?_))
        rw [s6]
        exact ⟨fun q => q.elim (fun q => q.elim Or.inl (fun q => Or.inr (Or.inl q))) (fun q => Or.inr (Or.inr ⟨c, q⟩)), fun q => q.elim (fun q => Or.inl (Or.inl q)) (fun q => q.elim (fun q => Or.inl (Or.inr q)) (fun q => Or.inr q.2))⟩
    have bit : zr < 10 → ((Int32.ofInt (Int32.ofInt (mi_a h 116 zr.toNat) >>> (Int32.ofInt zr &&& 31)).toInt &&& Int32.ofInt 1).toInt = 1 ↔ tb (b64 (mi_a h 116 zr.toNat)) zr.toNat = true) := fun lt => by
      have := (bit_b (mi_a h 116 zr.toNat) (q := zr.toNat) (by omega)).1
      rw [Int.toNat_of_nonneg r0] at this
      exact this
    refine mt_ckB hS ob or_ o3 o4 o5 o6 o7 ?_ ?_ ?_
    · intro b c h1 g1 g2
      have e := me_nil g2
      subst e
      have : zr = mi_f h1 13961 := by omega
      rw [this] at hl
      exact ckx78 (S := fun x => j_5 h1 (mi_f h1 13961) x ∨ j_6 h1 (mi_f h1 13961) x) hL g1 hP (fun x q => p5 _ _ x (Int.le_refl _) (Int.le_refl _) q) 70 _ 0 _ _ _ _ _ (by decide) (by decide) b60.1 ob o3 o4 o5 o6 o7 (lo_cg hl (fun x => ⟨Or.inl, fun q => q.elim id (fun q => q.elim (fun ⟨u, hu, _⟩ => by omega) (fun ⟨u, hu, _⟩ => by omega))⟩))
    · intro b c1 c2
      refine ⟨by omega, fun h1 g1 g2 => ?_⟩
      have e := me_nil g2
      subst e
      refine g39 _ c1 ob (lo_cg hl (fun x => ?_))
      rw [s5]
      have n := bit (by omega)
      exact ⟨fun q => q.elim (fun q => Or.inl (Or.inl q)) Or.inr, fun q => q.elim (fun q => q.elim Or.inl (fun q => absurd (n.mpr q.1) c2)) Or.inr⟩
    · intro b c1 c2
      refine ⟨by omega, fun h1 g1 g2 => ?_⟩
      have e := me_nil g2
      subst e
      have pl := hP.1 zr.toNat (by omega)
      refine ⟨_, me_leastx g1 ob (by decide) (by decide) pl.1 pl.2 (fun x q => p5 zr zr x (by omega) (by omega) q) hl, fun w h5 ow hq => ?_⟩
      obtain ⟨e, z, rfl, oz, lz⟩ := hq
      subst e
      refine mt_ckC g1 ob or_ oz o3 o4 o5 o6 o7 ?_
      intro h2 t1 t2
      have e := me_nil t2
      subst e
      refine g39 _ c1 oz (lo_cg lz (fun x => ?_))
      rw [s5]
      have n := (bit (by omega)).mp c2
      exact ⟨fun q => q.elim (fun q => q.elim (fun q => Or.inl (Or.inl q)) Or.inr) (fun q => Or.inl (Or.inr ⟨n, q⟩)), fun q => q.elim (fun q => q.elim (fun q => Or.inl (Or.inl q)) (fun q => Or.inr q.2)) (fun q => Or.inl (Or.inr q))⟩
theorem me_checkx (hL : sy_L h Y) (hS : ab_Sh sx_sk h) (hP : j_pl h) : me_E (d + 1) 201 0 [some (.inr (.inr 109)), none, none, none, none, none, none, none] [] h (ck_X (j_all h) h) := by
  have b10 := me_fb (c := 13961) hS rfl
  refine mt_ckA hS ?_
  intro h1 g1 g2
  have e := me_nil g2
  subst e
  exact ckx4 hL g1 hP 20 0 0 _ _ _ _ _ (by decide) (by decide) b10.1 ⟨by decide, by decide⟩ me_on me_on me_on me_on me_on (Or.inl ⟨rfl, fun x q => q.elim (fun ⟨u, hu, _⟩ => by omega) (fun ⟨u, hu, _⟩ => by omega)⟩)
theorem j_pos (hP : j_pl h) (hp8 : ∀ x, j_8 h (mi_f h 13965) x → 0 < x) : ∀ x, j_all h x → 0 < x := by
  rintro x (((⟨u, u1, u2, u3⟩ | ⟨u, u1, u2, u3⟩) | ⟨u, u1, u2, u3⟩ | ⟨u, u1, u2, u3⟩) | q)
  · have := (hP.1 u u1).1; omega
  · have := (hP.1 u u1).1; omega
  · have := (hP.2.1 u u1 u2.1).1; omega
  · have := (hP.2.1 u u1 u2.1).1; omega
  · exact hp8 x q
end CKX
