/-! with which uses a rule begins: the same on both sides -/
theorem bitC_e : ∀ r : Nat, r < 10 → ∀ b : Nat, b < 64 → tb (bitC (r : Int)) b = decide (b = r) := by decide +kernel
theorem bitC_t {r : Nat} (hr : r < 10) (b : Nat) : tb (bitC (r : Int)) b = true ↔ b = r := by
  by_cases c : b < 64
  · rw [bitC_e r hr b c]
    exact decide_eq_true_iff
  · unfold tb
    rw [BitVec.getLsbD_of_ge _ _ (by omega)]
    exact ⟨fun q => absurd q (by decide), fun q => by omega⟩
section ZQM
variable {e e' : sp_P → Prop} {β : Int → Int64} {X : sp_X} {L : Nat → Int64}
theorem zP_mem {p : sp_P} : ∀ us, zP e us p → p ∈ us := by
  intro us
  induction us with
  | nil => intro h; exact h.elim
  | cons q r ih =>
    intro h
    rcases h with rfl | h
    · exact List.mem_cons_self
    · exact List.mem_cons_of_mem _ (ih h.2)
theorem zP_mono {p : sp_P} : ∀ us, (∀ q ∈ us, e q → e' q) → zP e us p → zP e' us p := by
  intro us
  induction us with
  | nil => intro _ h; exact h
  | cons q r ih =>
    intro hm h
    rcases h with h | h
    · exact Or.inl h
    · exact Or.inr ⟨hm q List.mem_cons_self h.1, ih (fun q hq => hm q (List.mem_cons_of_mem _ hq)) h.2⟩
theorem zQ_mono {p : sp_P} {as : List (List sp_P)} (hm : ∀ us ∈ as, ∀ q ∈ us, e q → e' q) (h : zQ e as p) : zQ e' as p := by
  obtain ⟨us, h1, h2⟩ := h
  exact ⟨us, h1, zP_mono us (hm us h1) h2⟩
theorem zP_map {φ : sp_P → sp_P} {q : sp_P} : ∀ us : List sp_P, zP e (us.map φ) q ↔ ∃ p, q = φ p ∧ zP (fun p => e (φ p)) us p := by
  intro us
  induction us with
  | nil => exact ⟨fun h => h.elim, fun ⟨p, _, h⟩ => h.elim⟩
  | cons a r ih =>
    rw [List.map_cons]
    constructor
    · rintro (h | ⟨h1, h2⟩)
      · exact ⟨a, h, Or.inl rfl⟩
      · obtain ⟨p, h3, h4⟩ := ih.mp h2
        exact ⟨p, h3, Or.inr ⟨h1, h4⟩⟩
    · rintro ⟨p, h, h2 | ⟨h1, h2⟩⟩
      · subst h2
        exact Or.inl h
      · exact Or.inr ⟨h1, ih.mpr ⟨p, h, h2⟩⟩
theorem zQ_map {φ : sp_P → sp_P} {q : sp_P} {as : List (List sp_P)} : zQ e (as.map (List.map φ)) q ↔ ∃ p, q = φ p ∧ zQ (fun p => e (φ p)) as p := by
  constructor
  · rintro ⟨vs, h1, h2⟩
    obtain ⟨us, h3, rfl⟩ := List.mem_map.mp h1
    obtain ⟨p, h4, h5⟩ := (zP_map us).mp h2
    exact ⟨p, h4, us, h3, h5⟩
  · rintro ⟨p, h4, us, h3, h5⟩
    exact ⟨us.map φ, List.mem_map.mpr ⟨us, h3, rfl⟩, (zP_map us).mpr ⟨p, h4, h5⟩⟩
theorem sl_ax {b : Nat} : ∀ us, tb (sl_a β X L us) b = true ↔ ∃ p, zP (sp_e X) us p ∧ tb (cl_R β L p) b = true := by
  intro us
  induction us with
  | nil =>
    show tb 0 b = true ↔ _
    rw [tb_0]
    exact ⟨fun q => absurd q (by decide), fun ⟨p, h, _⟩ => h.elim⟩
  | cons q r ih =>
    rw [sl_a_c]
    by_cases c : sp_e X q
    · rw [if_pos c, tb_or, Bool.or_eq_true, ih]
      constructor
      · rintro (h | ⟨p, h1, h2⟩)
        · exact ⟨q, Or.inl rfl, h⟩
        · exact ⟨p, Or.inr ⟨c, h1⟩, h2⟩
      · rintro ⟨p, h1 | h1, h2⟩
        · rw [h1] at h2; exact Or.inl h2
        · exact Or.inr ⟨p, h1.2, h2⟩
    · rw [if_neg c]
      constructor
      · intro h; exact ⟨q, Or.inl rfl, h⟩
      · rintro ⟨p, h1 | h1, h2⟩
        · rw [h1] at h2; exact h2
        · exact absurd h1.1 c
theorem sl_fx {b : Nat} : ∀ as, tb (sl_f β X L as) b = true ↔ ∃ p, zQ (sp_e X) as p ∧ tb (cl_R β L p) b = true := by
  intro as
  induction as with
  | nil =>
    show tb 0 b = true ↔ _
    rw [tb_0]
    exact ⟨fun q => absurd q (by decide), fun ⟨p, ⟨us, h, _⟩, _⟩ => by cases h⟩
  | cons a r ih =>
    rw [sl_f_c, tb_or, Bool.or_eq_true, sl_ax, ih]
    constructor
    · rintro (⟨p, h1, h2⟩ | ⟨p, ⟨us, h0, h1⟩, h2⟩)
      · exact ⟨p, ⟨a, List.mem_cons_self, h1⟩, h2⟩
      · exact ⟨p, ⟨us, List.mem_cons_of_mem _ h0, h1⟩, h2⟩
    · rintro ⟨p, ⟨us, h0, h1⟩, h2⟩
      rcases List.mem_cons.mp h0 with rfl | h0
      · exact Or.inl ⟨p, h1, h2⟩
      · exact Or.inr ⟨p, ⟨us, h0, h1⟩, h2⟩
theorem sb_ax {b : Nat} : ∀ us, tb (sb_a X us) b = true ↔ ∃ p, zP (sp_e X) us p ∧ tb (cb_C X.2.1 p) b = true := by
  intro us
  induction us with
  | nil =>
    show tb 0 b = true ↔ _
    rw [tb_0]
    exact ⟨fun q => absurd q (by decide), fun ⟨p, h, _⟩ => h.elim⟩
  | cons q r ih =>
    rw [sb_a_c]
    by_cases c : sp_e X q
    · rw [if_pos c, tb_or, Bool.or_eq_true, ih]
      constructor
      · rintro (h | ⟨p, h1, h2⟩)
        · exact ⟨q, Or.inl rfl, h⟩
        · exact ⟨p, Or.inr ⟨c, h1⟩, h2⟩
      · rintro ⟨p, h1 | h1, h2⟩
        · rw [h1] at h2; exact Or.inl h2
        · exact Or.inr ⟨p, h1.2, h2⟩
    · rw [if_neg c]
      constructor
      · intro h; exact ⟨q, Or.inl rfl, h⟩
      · rintro ⟨p, h1 | h1, h2⟩
        · rw [h1] at h2; exact h2
        · exact absurd h1.1 c
theorem sb_fx {b : Nat} : ∀ as, tb (sb_f X as) b = true ↔ ∃ p, zQ (sp_e X) as p ∧ tb (cb_C X.2.1 p) b = true := by
  intro as
  induction as with
  | nil =>
    show tb 0 b = true ↔ _
    rw [tb_0]
    exact ⟨fun q => absurd q (by decide), fun ⟨p, ⟨us, h, _⟩, _⟩ => by cases h⟩
  | cons a r ih =>
    rw [sb_f_c, tb_or, Bool.or_eq_true, sb_ax, ih]
    constructor
    · rintro (⟨p, h1, h2⟩ | ⟨p, ⟨us, h0, h1⟩, h2⟩)
      · exact ⟨p, ⟨a, List.mem_cons_self, h1⟩, h2⟩
      · exact ⟨p, ⟨us, List.mem_cons_of_mem _ h0, h1⟩, h2⟩
    · rintro ⟨p, ⟨us, h0, h1⟩, h2⟩
      rcases List.mem_cons.mp h0 with rfl | h0
      · exact Or.inl ⟨p, h1, h2⟩
      · exact Or.inr ⟨p, ⟨us, h0, h1⟩, h2⟩
end ZQM
section BGS
variable {nf nr j i : Nat} {fm rf : Nat → Nat} {G GC : sg_G} {β : Int → Int64}
theorem cb_sn {B : Nat → Int64} {p : sp_P} : cb_C B (sn fm p) = if 0 ≤ p.1 then (if p.2.1 ≠ 0 then bitC ((fm p.1.toNat : Nat) : Int) ||| B (fm p.1.toNat) else B (fm p.1.toNat)) else 0 := by
  unfold cb_C
  by_cases c : 0 ≤ p.1
  · have e1 : (sn fm p).1 = ((fm p.1.toNat : Nat) : Int) := by
      show (if 0 ≤ p.1 then (fm p.1.toNat : Int) else p.1) = _
      rw [if_pos c]
    rw [if_pos (sn_0.mpr c), if_pos c, e1]
    rfl
  · rw [if_neg (fun q => c (sn_0.mp q)), if_neg c]
theorem bg_same (hG : sg_OK nf G) (hC : sg_OK 70 GC) (T : sg_two nf 70 fm G GC) (fX : sp_fix nf G (sr_k G j)) (hL : ∀ F : Nat, F < nf → lr_k β G (j + 1) F = lr_k β G j F) (fB : sp_fix 70 (bG GC) (sps_k (bG GC) 70 i)) (hv : ∀ F : Nat, F < nf → (sr_k G j).1 F = (sps_k (bG GC) 70 i).1 (fm F)) (hβ : ∀ F : Nat, F < nf → ∀ us ∈ G F, ∀ p ∈ us, p.2.1 ≠ 0 → 0 ≤ p.1 ∧ β p.1 = bitC ((fm p.1.toNat : Nat) : Int) ∧ fm p.1.toNat < nr ∧ rf (fm p.1.toNat) = p.1.toNat) (hnr : nr ≤ 10) (hrf : ∀ r : Nat, r < nr → rf r < nf) (hfm : ∀ r : Nat, r < nr → fm (rf r) = r) : ∀ r : Nat, r < nr → ∀ b, (tb ((sps_k (bG GC) 70 i).2.1 r) b = true ↔ wa (fun r q => tb (lr_k β G j (rf r)) q = true) nr r b) := by
  have bC : sg_OK 70 (bG GC) := bG_OK hC
  obtain ⟨X, hX⟩ : ∃ X, X = sr_k G j := ⟨_, rfl⟩
  obtain ⟨Z, hZ⟩ : ∃ Z, Z = sps_k (bG GC) 70 i := ⟨_, rfl⟩
  rw [← hX] at fX hv
  rw [← hZ] at fB hv ⊢
  have pn : ∀ F : Nat, F < nf → ∀ us ∈ G F, ∀ p ∈ us, p.1 < nf := fun F hF us hu p hp => (hG F hF us hu).1 p hp
  have zn : ∀ {e : sp_P → Prop} {F : Nat} {p : sp_P}, F < nf → zQ e (G F) p → ∃ us ∈ G F, p ∈ us := fun hF ⟨us, h1, h2⟩ => ⟨us, h1, zP_mem us h2⟩
  have ev : ∀ p : sp_P, p.1 < nf → (sp_e Z (sn fm p) ↔ sp_e X p) := fun p hp => by
    unfold sp_e
    rw [sn_v]
    unfold sp_v
    by_cases c : 0 ≤ p.1
    · rw [if_pos c, if_pos c]
      show (p.2.2.1 ≠ 0 ∨ Z.1 (fm p.1.toNat) ≠ 0) ↔ _
      rw [hv p.1.toNat (by omega)]
    · rw [if_neg c, if_neg c]
      exact Iff.rfl
  have main := zz_same (e := sp_e X) (bt := fun p => fm p.1.toNat) (nf := nf) (nr := nr) (G := G) (rf := rf) (L := fun F b => tb (lr_k β G j F) b = true) (B := fun F b => tb (Z.2.1 (fm F)) b = true) ?_ hrf ?_ ?_ ?_ ?_ ?_
  · intro r hr b
    have := main r hr b
    rw [← this]
    show _ ↔ tb (Z.2.1 (fm (rf r))) b = true
    rw [hfm r hr]
  · intro F hF p hp hn
    obtain ⟨us, h1, h2⟩ := zn hF hp
    obtain ⟨a1, a2, a3, a4⟩ := hβ F hF us h1 p h2 hn
    exact ⟨a1, a4.symm, a3⟩
  · intro F hF p hp h0
    obtain ⟨us, h1, h2⟩ := zn hF hp
    have := pn F hF us h1 p h2
    omega
  · /- leads are closed -/
    intro F hF p hp
    obtain ⟨us, h1, h2⟩ := zn hF hp
    have key : ∀ b, tb (cl_R β (lr_k β G j) p) b = true → tb (lr_k β G j F) b = true := fun b q => by
      rw [← hL F hF]
      show tb (sl_f β (sr_k G j) (lr_k β G j) (G F)) b = true
      rw [sl_fx, ← hX]
      exact ⟨p, hp, q⟩
    refine ⟨fun hn => ?_, fun hn h0 b hb => ?_⟩
    · obtain ⟨a1, a2, a3, a4⟩ := hβ F hF us h1 p h2 hn
      refine key _ ?_
      unfold cl_R
      rw [if_pos hn, a2]
      exact (bitC_t (by omega) _).mpr rfl
    · refine key _ ?_
      unfold cl_R
      rw [if_neg (fun q => q hn), if_pos h0]
      exact hb
  · /- leads are the least -/
    intro S hS
    have ind : ∀ (k F : Nat), F < nf → ∀ b, tb (lr_k β G k F) b = true → S F b := by
      intro k
      induction k with
      | zero => intro F _ b q; have q : tb 0 b = true := q; rw [tb_0] at q; exact absurd q (by decide)
      | succ k ih =>
        intro F hF b q
        have q : tb (sl_f β (sr_k G k) (lr_k β G k) (G F)) b = true := q
        obtain ⟨p, h1, h2⟩ := (sl_fx (G F)).mp q
        have le := sr_k_least hG fX k
        have h1' : zQ (sp_e X) (G F) p := zQ_mono (fun us hu q hq c => sm_e le (pn F hF us hu q hq) c) h1
        obtain ⟨us, u1, u2⟩ := zn hF h1'
        obtain ⟨c1, c2⟩ := hS F hF p h1'
        unfold cl_R at h2
        by_cases hn : p.2.1 ≠ 0
        · rw [if_pos hn] at h2
          obtain ⟨a1, a2, a3, a4⟩ := hβ F hF us u1 p u2 hn
          rw [a2] at h2
          have := (bitC_t (by omega) b).mp h2
          rw [this]
          exact c1 hn
        · rw [if_neg hn] at h2
          by_cases h0 : 0 ≤ p.1
          · rw [if_pos h0] at h2
            have pl := pn F hF us u1 p u2
            exact c2 (Classical.byContradiction hn) h0 b (ih _ (by omega) b h2)
          · rw [if_neg h0, tb_0] at h2
            exact absurd h2 (by decide)
    exact fun F hF b q => ind j F hF b q
  · /- begins are closed -/
    intro F hF p hp
    obtain ⟨us, h1, h2⟩ := zn hF hp
    obtain ⟨t1, t2⟩ := T.1 F hF
    have key : ∀ b, tb (cb_C Z.2.1 (sn fm p)) b = true → tb (Z.2.1 (fm F)) b = true := fun b q => by
      have := (fB (fm F) t1).2.1
      rw [← this]
      show tb (sf_s Z ((GC (fm F)).map bl)) b = true
      rw [(bG_f (X := Z) (GC (fm F))).2.1, sb_fx, t2]
      exact ⟨sn fm p, zQ_map.mpr ⟨p, rfl, zQ_mono (fun us hu q hq c => (ev q (pn F hF us hu q hq)).mpr c) hp⟩, q⟩
    refine ⟨fun hn => ?_, fun h0 b hb => ?_⟩
    · obtain ⟨a1, a2, a3, a4⟩ := hβ F hF us h1 p h2 hn
      refine key _ ?_
      rw [cb_sn, if_pos a1, if_pos hn, tb_or, (bitC_t (by omega) _).mpr rfl]
      rfl
    · refine key _ ?_
      rw [cb_sn, if_pos h0]
      have hb : tb (Z.2.1 (fm p.1.toNat)) b = true := hb
      split
      · rw [tb_or, hb, Bool.or_true]
      · exact hb
  · /- begins are the least -/
    intro S hS
    have fK : sp_fix 70 (bG GC) (sr_k (bG GC) 140) := sr_fix (sr_k_stop bC (by decide))
    have ind : ∀ (k F : Nat), F < nf → ∀ b, tb ((sr_k (bG GC) k).2.1 (fm F)) b = true → S F b := by
      intro k
      induction k with
      | zero => intro F _ b q; have q : tb 0 b = true := q; rw [tb_0] at q; exact absurd q (by decide)
      | succ k ih =>
        intro F hF b q
        obtain ⟨t1, t2⟩ := T.1 F hF
        have q : tb (sf_s (sr_k (bG GC) k) ((GC (fm F)).map bl)) b = true := q
        rw [(bG_f (X := sr_k (bG GC) k) (GC (fm F))).2.1, sb_fx, t2] at q
        obtain ⟨q', h1, h2⟩ := q
        obtain ⟨p, rfl, h3⟩ := zQ_map.mp h1
        have le := sr_k_least bC fB k
        have snl : ∀ us ∈ G F, ∀ q ∈ us, (sn fm q).1 < (70 : Nat) := fun us hu q hq => by
          have h := (hC (fm F) t1 (us.map (sn fm)) (by rw [t2]; exact List.mem_map.mpr ⟨us, hu, rfl⟩)).1 (sn fm q) (List.mem_map.mpr ⟨q, hq, rfl⟩)
          exact h
        have h1' : zQ (sp_e X) (G F) p := zQ_mono (fun us hu q hq c => (ev q (pn F hF us hu q hq)).mp (sm_e le (snl us hu q hq) c)) h3
        obtain ⟨us, u1, u2⟩ := zn hF h1'
        obtain ⟨c1, c2⟩ := hS F hF p h1'
        rw [cb_sn] at h2
        by_cases h0 : 0 ≤ p.1
        · have pl := pn F hF us u1 p u2
          rw [if_pos h0] at h2
          by_cases hn : p.2.1 ≠ 0
          · obtain ⟨a1, a2, a3, a4⟩ := hβ F hF us u1 p u2 hn
            rw [if_pos hn, tb_or, Bool.or_eq_true] at h2
            rcases h2 with h2 | h2
            · have := (bitC_t (by omega) b).mp h2
              rw [this]
              exact c1 hn
            · exact c2 h0 b (ih _ (by omega) b h2)
          · rw [if_neg hn] at h2
            exact c2 h0 b (ih _ (by omega) b h2)
        · rw [if_neg h0, tb_0] at h2
          exact absurd h2 (by decide)
    intro F hF b q
    have le := sps_k_least bC fK i
    have q : tb (Z.2.1 (fm F)) b = true := q
    rw [hZ] at q
    exact ind 140 F hF b ((le (fm F) (T.1 F hF).1).2.1 b q)
end BGS
