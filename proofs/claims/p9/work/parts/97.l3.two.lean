/-! the same system with other numbers for the forms has the same solution -/
def sn (fm : Nat → Nat) (p : sp_P) : sp_P := (if 0 ≤ p.1 then (fm p.1.toNat : Int) else p.1, p.2)
def sn_X (fm : Nat → Nat) (X : sp_X) : sp_X := (fun F => X.1 (fm F), fun F => X.2.1 (fm F), fun F => X.2.2 (fm F))
section SNN
variable {fm : Nat → Nat} {X : sp_X}
theorem sn_0 {p : sp_P} : 0 ≤ (sn fm p).1 ↔ 0 ≤ p.1 := by
  unfold sn
  by_cases c : 0 ≤ p.1
  · show 0 ≤ (if 0 ≤ p.1 then (fm p.1.toNat : Int) else p.1) ↔ _
    rw [if_pos c]
    exact ⟨fun _ => c, fun _ => by omega⟩
  · show 0 ≤ (if 0 ≤ p.1 then (fm p.1.toNat : Int) else p.1) ↔ _
    rw [if_neg c]
theorem sn_1 {p : sp_P} (c : 0 ≤ p.1) : (sn fm p).1.toNat = fm p.1.toNat := by
  show (if 0 ≤ p.1 then (fm p.1.toNat : Int) else p.1).toNat = _
  rw [if_pos c]
  omega
theorem sn_v {p : sp_P} : sp_v X (sn fm p) = sp_v (sn_X fm X) p := by
  unfold sp_v
  by_cases c : 0 ≤ p.1
  · rw [if_pos (sn_0.mpr c), if_pos c, sn_1 c]; rfl
  · rw [if_neg (fun q => c (sn_0.mp q)), if_neg c]; rfl
theorem sn_s {p : sp_P} : sp_s X (sn fm p) = sp_s (sn_X fm X) p := by
  unfold sp_s
  by_cases c : 0 ≤ p.1
  · rw [if_pos (sn_0.mpr c), if_pos c, sn_1 c]; rfl
  · rw [if_neg (fun q => c (sn_0.mp q)), if_neg c]; rfl
theorem sn_h {p : sp_P} : sp_h X (sn fm p) = sp_h (sn_X fm X) p := by
  unfold sp_h
  by_cases c1 : p.2.2.1 ≠ 0
  · rw [if_pos (show (sn fm p).2.2.1 ≠ 0 from c1), if_pos c1]
  · rw [if_neg (show ¬ (sn fm p).2.2.1 ≠ 0 from c1), if_neg c1]
    by_cases c : 0 ≤ p.1
    · rw [if_pos (sn_0.mpr c), if_pos c, sn_1 c]; rfl
    · rw [if_neg (fun q => c (sn_0.mp q)), if_neg c]
theorem sn_e {p : sp_P} : sp_e X (sn fm p) ↔ sp_e (sn_X fm X) p := by
  unfold sp_e
  rw [sn_v]
  exact Iff.rfl
theorem sn_a : ∀ us : List sp_P, sa_v X (us.map (sn fm)) = sa_v (sn_X fm X) us ∧ sa_s X (us.map (sn fm)) = sa_s (sn_X fm X) us ∧ sa_h X (us.map (sn fm)) = sa_h (sn_X fm X) us := by
  intro us
  induction us with
  | nil => exact ⟨rfl, rfl, rfl⟩
  | cons p r ih =>
    obtain ⟨i1, i2, i3⟩ := ih
    rw [List.map_cons]
    unfold sa_v sa_s sa_h
    rw [i1, i2, i3, sn_s, sn_h]
    by_cases c : sp_e (sn_X fm X) p
    · rw [if_pos (sn_e.mpr c), if_pos c, if_pos (sn_e.mpr c), if_pos c]
      exact ⟨rfl, rfl, rfl⟩
    · rw [if_neg (fun q => c (sn_e.mp q)), if_neg c, if_neg (fun q => c (sn_e.mp q)), if_neg c]
      exact ⟨rfl, rfl, rfl⟩
theorem sn_f : ∀ as : List (List sp_P), sf_v X (as.map (List.map (sn fm))) = sf_v (sn_X fm X) as ∧ sf_s X (as.map (List.map (sn fm))) = sf_s (sn_X fm X) as ∧ sf_h X (as.map (List.map (sn fm))) = sf_h (sn_X fm X) as := by
  intro as
  induction as with
  | nil => exact ⟨rfl, rfl, rfl⟩
  | cons a r ih =>
    obtain ⟨i1, i2, i3⟩ := ih
    obtain ⟨a1, a2, a3⟩ := sn_a (fm := fm) (X := X) a
    rw [List.map_cons]
    unfold sf_v sf_s sf_h
    rw [i1, i2, i3, a1, a2, a3]
    exact ⟨rfl, rfl, rfl⟩
end SNN
/-- the two ways to number -/
def sg_two (nr nc : Nat) (fm : Nat → Nat) (GR GC : sg_G) : Prop := (∀ F, F < nr → fm F < nc ∧ GC (fm F) = (GR F).map (List.map (sn fm))) ∧ (∀ F F', F < nr → F' < nr → fm F = fm F' → F = F') ∧ ∀ j, j < nc → (∀ F, F < nr → fm F ≠ j) → GC j = []
noncomputable def sg_i (fm : Nat → Nat) (nr j : Nat) : Nat := @dite Nat (∃ F, F < nr ∧ fm F = j) (Classical.propDecidable _) (fun h => Classical.choose h) (fun _ => nr)
section SG2
variable {nr nc : Nat} {fm : Nat → Nat} {GR GC : sg_G}
theorem sg_i1 (h : sg_two nr nc fm GR GC) {F : Nat} (hF : F < nr) : sg_i fm nr (fm F) = F := by
  have ex : ∃ F', F' < nr ∧ fm F' = fm F := ⟨F, hF, rfl⟩
  unfold sg_i
  rw [dif_pos ex]
  have := Classical.choose_spec ex
  exact h.2.1 _ _ this.1 hF this.2
theorem sg_i0 {j : Nat} (h : ∀ F, F < nr → fm F ≠ j) : sg_i fm nr j = nr := by
  unfold sg_i
  rw [dif_neg (fun ⟨F, a, b⟩ => h F a b)]
noncomputable def sg_Y (fm : Nat → Nat) (nr : Nat) (X : sp_X) : sp_X := (fun j => if sg_i fm nr j < nr then X.1 (sg_i fm nr j) else 0, fun j => if sg_i fm nr j < nr then X.2.1 (sg_i fm nr j) else 0, fun j => if sg_i fm nr j < nr then X.2.2 (sg_i fm nr j) else 1000)
theorem sg_Y1 (h : sg_two nr nc fm GR GC) {X : sp_X} : sp_eq nr (sn_X fm (sg_Y fm nr X)) X := fun F hF => by
  show (if sg_i fm nr (fm F) < nr then X.1 (sg_i fm nr (fm F)) else 0) = X.1 F ∧ (if sg_i fm nr (fm F) < nr then X.2.1 (sg_i fm nr (fm F)) else 0) = X.2.1 F ∧ (if sg_i fm nr (fm F) < nr then X.2.2 (sg_i fm nr (fm F)) else 1000) = X.2.2 F
  rw [sg_i1 h hF, if_pos hF, if_pos hF, if_pos hF]
  exact ⟨rfl, rfl, rfl⟩
theorem sg_fixC (h : sg_two nr nc fm GR GC) {X : sp_X} (hX : sp_fix nc GC X) : sp_fix nr GR (sn_X fm X) := fun F hF => by
  obtain ⟨a, b⟩ := h.1 F hF
  obtain ⟨c1, c2, c3⟩ := sn_f (fm := fm) (X := X) (GR F)
  rw [← c1, ← c2, ← c3, ← b]
  exact hX _ a
theorem sg_fixY (hR : sg_OK nr GR) (h : sg_two nr nc fm GR GC) {X : sp_X} (hX : sp_fix nr GR X) : sp_fix nc GC (sg_Y fm nr X) := fun j hj => by
  by_cases c : ∃ F, F < nr ∧ fm F = j
  · obtain ⟨F, hF, rfl⟩ := c
    obtain ⟨c1, c2, c3⟩ := sn_f (fm := fm) (X := sg_Y fm nr X) (GR F)
    obtain ⟨d1, d2, d3⟩ := (sg_Y1 (X := X) h).fs (hR F hF)
    obtain ⟨e1, e2, e3⟩ := sg_Y1 (X := X) h F hF
    obtain ⟨x1, x2, x3⟩ := hX F hF
    rw [(h.1 F hF).2, c1, c2, c3, d1, d2, d3, x1, x2, x3]
    exact ⟨e1.symm, e2.symm, e3.symm⟩
  · have n0 : ∀ F, F < nr → fm F ≠ j := fun F hF e => c ⟨F, hF, e⟩
    rw [h.2.2 j hj n0]
    show (0 : Int) = (if sg_i fm nr j < nr then X.1 (sg_i fm nr j) else 0) ∧ (0 : Int64) = (if sg_i fm nr j < nr then X.2.1 (sg_i fm nr j) else 0) ∧ (1000 : Int) = (if sg_i fm nr j < nr then X.2.2 (sg_i fm nr j) else 1000)
    rw [sg_i0 n0, if_neg (Nat.lt_irrefl _), if_neg (Nat.lt_irrefl _), if_neg (Nat.lt_irrefl _)]
    exact ⟨rfl, rfl, rfl⟩
/-- both end at the same -/
theorem sg_same (hR : sg_OK nr GR) (hC : sg_OK nc GC) (h : sg_two nr nc fm GR GC) {k k' : Nat} (fR : sp_fix nr GR (sr_k GR k)) (fC : sp_fix nc GC (sps_k GC nc k')) : sp_eq nr (sr_k GR k) (sn_X fm (sps_k GC nc k')) := by
  refine sp_anti (sr_k_01 k) (fun F hF => sps_k_01 (n := nc) k' _ (h.1 F hF).1) (sr_k_least hR (sg_fixC h fC) k) ?_
  have l := sps_k_least hC (sg_fixY hR h fR) k'
  have l2 : sp_le nr (sn_X fm (sps_k GC nc k')) (sn_X fm (sg_Y fm nr (sr_k GR k))) := fun F hF => l _ (h.1 F hF).1
  exact sp_le_tr l2 (sg_Y1 h).le
/- what follows -/
variable {XR XC : sp_X}
theorem sn_kr {b : Int64} (hX : sp_eq nr XR (sn_X fm XC)) : ∀ us, sg_ok nr us → sk_r XC b (us.map (sn fm)) = sk_r XR b us := by
  intro us
  induction us with
  | nil => intro _; rfl
  | cons p r ih =>
    intro ho
    have i := ih (fun q hq => ho q (List.mem_cons_of_mem _ hq))
    have e := sE_e hX.v (ho p List.mem_cons_self)
    have s : sp_s XC (sn fm p) = sp_s XR p := by rw [sn_s]; exact tb_ext (fun b => (sE_ps (hX.s b) (ho p List.mem_cons_self)).symm)
    rw [List.map_cons]
    unfold sk_r
    rw [i, s]
    by_cases c : sp_e XR p
    · rw [if_pos c, if_pos (sn_e.mpr (e.mp c))]
    · rw [if_neg c, if_neg (fun q => c (e.mpr (sn_e.mp q)))]
theorem sn_kc (h : sg_two nr nc fm GR GC) {b : Int64} {F : Nat} (hF : F < nr) (hX : sp_eq nr XR (sn_X fm XC)) : ∀ us, sg_ok nr us → sk_c XC b (fm F) (us.map (sn fm)) = sk_c XR b F us := by
  intro us
  induction us with
  | nil => intro _; rfl
  | cons p r ih =>
    intro ho
    have i := ih (fun q hq => ho q (List.mem_cons_of_mem _ hq))
    have hp := ho p List.mem_cons_self
    have s : sp_s XC (sn fm p) = sp_s XR p := by rw [sn_s]; exact tb_ext (fun b => (sE_ps (hX.s b) hp).symm)
    have kr := sn_kr (b := b) hX r (fun q hq => ho q (List.mem_cons_of_mem _ hq))
    rw [List.map_cons]
    unfold sk_c
    have ei : sk_i XC b (sn fm p) (r.map (sn fm)) = sk_i XR b p r := by
      unfold sk_i
      rw [kr, s]
      rfl
    rw [i, ei]
    congr 1
    by_cases c : p.1 = F
    · have c0 : 0 ≤ p.1 := by omega
      have : (sn fm p).1 = (fm F : Int) := by
        show (if 0 ≤ p.1 then (fm p.1.toNat : Int) else p.1) = _
        rw [if_pos c0, c]
        congr 1
      rw [if_pos c, if_pos this]
    · have : (sn fm p).1 ≠ (fm F : Int) := by
        show (if 0 ≤ p.1 then (fm p.1.toNat : Int) else p.1) ≠ _
        by_cases c0 : 0 ≤ p.1
        · rw [if_pos c0]
          intro q
          have q : fm p.1.toNat = fm F := by omega
          have := h.2.1 _ _ (by omega) hF q
          omega
        · rw [if_neg c0]
          omega
      rw [if_neg c, if_neg this]
theorem sg_sameW (hR : sg_OK nr GR) (hC : sg_OK nc GC) (h : sg_two nr nc fm GR GC) (hX : sp_eq nr XR (sn_X fm XC)) {WR WC : sp_F} {k k' : Nat} (hW : ∀ F, F < nr → WC (fm F) = WR F) (hW0 : ∀ j, j < nc → (∀ F, F < nr → fm F ≠ j) → WC j = 0) (sR : sw_sol XR nr GR (sk_k XR GR nr WR k)) (sC : sw_sol XC nc GC (sk_k XC GC nc WC k')) : ∀ F, F < nr → sk_k XR GR nr WR k F = sk_k XC GC nc WC k' (fm F) := by
  have solR : sw_sol XR nr GR (fun F => sk_k XC GC nc WC k' (fm F)) := fun f hf us hu i hi => by
    have := sC (fm f) (h.1 f hf).1 (us.map (sn fm)) (by rw [(h.1 f hf).2]; exact List.mem_map_of_mem hu) (fm i) (h.1 i hi).1
    rw [sn_kc h hi hX us (hR f hf us hu).1] at this
    exact this
  have l1 := sk_k_least solR (W0 := WR) (fun F hF => by
    have := sk_k_ge (X := XC) (n := nc) (G := GC) (W0 := WC) k' (fm F) (h.1 F hF).1
    rw [hW F hF] at this
    exact this) k
  obtain ⟨Y, hY⟩ : ∃ Y : sp_F, Y = fun j => if sg_i fm nr j < nr then sk_k XR GR nr WR k (sg_i fm nr j) else 0 := ⟨_, rfl⟩
  have Y1 : ∀ F, F < nr → Y (fm F) = sk_k XR GR nr WR k F := fun F hF => by
    rw [hY]
    show (if sg_i fm nr (fm F) < nr then sk_k XR GR nr WR k (sg_i fm nr (fm F)) else 0) = _
    rw [sg_i1 h hF, if_pos hF]
  have solC : sw_sol XC nc GC Y := fun f hf us hu i hi => by
    by_cases c : ∃ F, F < nr ∧ fm F = f
    · obtain ⟨F, hF, rfl⟩ := c
      rw [(h.1 F hF).2] at hu
      obtain ⟨us', hu', rfl⟩ := List.mem_map.mp hu
      have ho := (hR F hF us' hu').1
      by_cases c2 : ∃ I, I < nr ∧ fm I = i
      · obtain ⟨I, hI, rfl⟩ := c2
        rw [sn_kc h hI hX us' ho, Y1 F hF, Y1 I hI]
        exact sR F hF us' hu' I hI
      · have z : ∀ (b : Int64) (us : List sp_P), sg_ok nr us → sk_c XC b i (us.map (sn fm)) = 0 := by
          intro b us
          induction us with
          | nil => intro _; rfl
          | cons p r ih =>
            intro ho
            rw [List.map_cons]
            unfold sk_c
            rw [ih (fun q hq => ho q (List.mem_cons_of_mem _ hq))]
            have : (sn fm p).1 ≠ (i : Int) := by
              show (if 0 ≤ p.1 then (fm p.1.toNat : Int) else p.1) ≠ _
              have hp := ho p List.mem_cons_self
              by_cases c0 : 0 ≤ p.1
              · rw [if_pos c0]
                intro q
                exact c2 ⟨p.1.toNat, by omega, by omega⟩
              · rw [if_neg c0]
                omega
            rw [if_neg this]
            rfl
        rw [z _ us' ho]
        exact tl_0 _
    · rw [h.2.2 f hf (fun F hF e => c ⟨F, hF, e⟩)] at hu
      cases hu
  have l2 := sk_k_least solC (W0 := WC) (fun j hj => by
    by_cases c : ∃ F, F < nr ∧ fm F = j
    · obtain ⟨F, hF, rfl⟩ := c
      rw [Y1 F hF, hW F hF]
      exact sk_k_ge k F hF
    · rw [hW0 j hj (fun F hF e => c ⟨F, hF, e⟩)]
      exact tl_0 _) k'
  intro F hF
  refine tl_anti (l1 F hF) ?_
  have := l2 (fm F) (h.1 F hF).1
  rw [Y1 F hF] at this
  exact this
end SG2
