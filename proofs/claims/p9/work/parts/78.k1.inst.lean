/-! the three walks: what their traces are -/
def tp_N (g : wk_g) (K V : Nat → Int) (n : Nat) : Prop := ∃ (Tm : Nat) (st : List wk_E), Tm ≤ 40000 ∧ wk_tr g K V Tm (wk_0 g) = some (st, n) ∧ (st = [] ∨ Tm = 40000)
def tp_I (h0 : sm_H) (zt : Int) (h : sm_H) : Prop := wk_tr (mi_a h0) (wk_K 2 h0) (wk_V 2 h0) zt.toNat (wk_0 (mi_a h0)) = some (wk_stk h, (wk_n 2 h).toNat)
def tg_I (h0 : sm_H) (zt : Int) (h : sm_H) : Prop := ∀ K V : Nat → Int, (∀ i : Nat, (i : Int) < wk_n 1 h → K i = wk_K 1 h i ∧ V i = wk_V 1 h i) → wk_tr (mi_a h0) K V zt.toNat (wk_0 (mi_a h0)) = some (wk_stk h, (wk_n 1 h).toNat)
def ta_I (h0 : sm_H) (zt : Int) (h : sm_H) : Prop := wk_ix (wk_stk h) (wk_n 0 h) ∧ (∀ i, wk_on i (wk_stk h) → 0 ≤ wk_V 0 h i ∧ wk_V 0 h i ≤ zt) ∧ ∀ K V : Nat → Int, (∀ i : Nat, (i : Int) < wk_n 0 h → K i = wk_K 0 h i) → (∀ i : Nat, (i : Int) < wk_n 0 h → ¬ wk_on i (wk_stk h) → V i = wk_V 0 h i) → (∀ i : Nat, wk_on i (wk_stk h) → wk_V 0 h i ≤ V i ∧ V i ≤ 1000000) → wk_tr (mi_a h0) K V zt.toNat (wk_0 (mi_a h0)) = some (wk_cv (fun i => V i - wk_V 0 h i) (wk_stk h), (wk_n 0 h).toNat)
section INS
variable {h0 : sm_H} {Y : wk_Y}
theorem wk_tr_S {g : wk_g} {K V : Nat → Int} {s x : List wk_E × Nat} {zt : Int} (z0 : 0 ≤ zt) (h : wk_tr g K V zt.toNat s = some x) : wk_tr g K V (zt + 1).toNat s = wk_pf g K V x := by
  have e : (zt + 1).toNat = zt.toNat + 1 := by omega
  rw [e]
  show (wk_tr g K V zt.toNat s).bind (wk_pf g K V) = _
  rw [h]
  rfl
theorem tp_T {n : Nat} (hS0 : ab_Sh sx_sk h0) (hN : tp_N (mi_a h0) (wk_K 2 h0) (wk_V 2 h0) n) (hn : n ≤ 100) : wl_T Y h0 2 (tp_I h0) := by
  refine ⟨fun _ zt h hI hne z0 z1 => ?_, fun e => absurd e (by decide), fun zt h h' z0 z1 hI hS' hF hp hle hag hx => ?_, fun e => absurd e (by decide), fun e => absurd e (by decide), fun e => absurd e (by decide)⟩
  · have hg : wk_gc (mi_a h0) (mi_a h) := wk_gc_fr hI.2.1 hS0 rfl
    have hK := wk_KV2 hI.2.1 hS0 rfl
    have hT : tp_I h0 zt h := hI.2.2.2.1
    obtain ⟨Tm, st, t1, t2, t3⟩ := hN
    rw [wk_pf_g hg, hK.1, hK.2]
    by_cases hlt : zt.toNat < Tm
    · obtain ⟨y, y1, y2, y3⟩ := wk_tr_next t2 hlt hT
      exact ⟨y, y1, Nat.le_trans y3 hn⟩
    · exfalso
      have t3 : st = [] := t3.resolve_right (by omega)
      subst t3
      by_cases heq : zt.toNat = Tm
      · unfold tp_I at hT
        rw [heq, t2] at hT
        exact hne (Prod.ext_iff.mp (Option.some.inj hT)).1.symm
      · obtain ⟨y, y1, -⟩ := wk_tr_le zt.toNat (Tm + 1) hT (by omega)
        unfold wk_tr at y1
        rw [t2] at y1
        cases y1
  · have hg : wk_gc (mi_a h0) (mi_a h) := wk_gc_fr hI.2.1 hS0 rfl
    have hK := wk_KV2 (hI.2.1.trans hF) hS0 rfl
    have hT : tp_I h0 zt h := hI.2.2.2.1
    rw [wk_pf_g hg, hK.1, hK.2] at hp
    unfold tp_I
    rw [wk_tr_S z0 hT]
    exact hp
theorem tg_T (hS0 : ab_Sh sx_sk h0) : wl_T Y h0 1 (tg_I h0) := by
  refine ⟨fun e => absurd e (by decide), fun e => absurd e (by decide), fun zt h h' z0 z1 hI hS' hF hp hle hag hx K V hK => ?_, fun e => absurd e (by decide), fun e => absurd e (by decide), fun e => absurd e (by decide)⟩
  have hg : wk_gc (mi_a h0) (mi_a h) := wk_gc_fr hI.2.1 hS0 rfl
  have hT : tg_I h0 zt h := hI.2.2.2.1
  have i11 := hI.1.2.2.2.2.2.2.2.2.2.2
  rw [wk_pf_g hg] at hp
  rw [wk_tr_S z0 (hT K V (fun i hi => ?_))]
  · refine wk_pf_R hp (fun i i1 i2 => hK i ?_)
    have i2 : i < (wk_n 1 h').toNat := i2
    omega
  · obtain ⟨a1, a2⟩ := hK i (by omega)
    obtain ⟨b1, b2⟩ := hag i hi
    exact ⟨a1.trans b1, a2.trans b2⟩
theorem ta_T (hS0 : ab_Sh sx_sk h0) : wl_T Y h0 0 (ta_I h0) := by
  refine ⟨fun e => absurd e (by decide), fun _ zt h w a r hI z0 z1 hst => ?_, fun zt h h' z0 z1 hI hS' hF hp hle hag hx => ?_, fun _ zt h h' w a r z0 z1 hI hS' hF hst hw hst' hn' hk' hv' hag => ?_, fun _ zt h h' w a r z0 z1 hI hS' hF hst hst' hn' hag => ?_, fun _ zt h h' w a r z0 z1 hI hS' hF hst hst' hsg hle hag => ?_⟩
  · obtain ⟨t1, t2, -⟩ : ta_I h0 zt h := hI.2.2.2.1
    rw [hst] at t1 t2
    have t2 := t2 a.toNat ⟨_, List.mem_cons_self .., rfl, rfl⟩
    unfold wk_ix at t1
    rw [if_pos rfl] at t1
    have t1a : 0 ≤ a := t1.1
    have t1b : a < wk_n 0 h := t1.2.1
    have b16 := me_fb (c := 14016) hI.1.1 rfl
    have e : wk_n 0 h = mi_f h 14016 := rfl
    omega
  · -- a step without fives
    obtain ⟨t1, t2, t3⟩ : ta_I h0 zt h := hI.2.2.2.1
    have hg : wk_gc (mi_a h0) (mi_a h) := wk_gc_fr hI.2.1 hS0 rfl
    have i11 := hI.1.2.2.2.2.2.2.2.2.2.2
    rw [wk_pf_g hg] at hp
    cases hs : wk_stk h with
    | nil => rw [hs] at hp; unfold wk_pf at hp; cases hp
    | cons e r =>
      obtain ⟨x5, x1⟩ := hx rfl e r hs
      rw [hg 122 (by decide)] at x1
      rw [hs] at hp t1 t2 t3
      obtain ⟨P, p1, p2, p3⟩ := wk_pf_P x5 x1 hp
      have t1r : wk_ix r (wk_n 0 h) := by
        unfold wk_ix at t1
        rw [if_neg x5] at t1
        exact t1
      have onr : ∀ i, wk_on i (e :: r) ↔ wk_on i r := fun i => wk_on_P (P := [e]) (wk_n5_c x5 wk_n5_0)
      have onn : ∀ i, wk_on i (wk_stk h') ↔ wk_on i r := fun i => by rw [p2]; exact wk_on_P p1
      have lt : ∀ i, wk_on i r → (i : Int) < wk_n 0 h := wk_ix_on r _ t1r
      refine ⟨by rw [p2]; exact wk_ix_P p1 (wk_ix_mono _ _ _ t1r hle), fun i hi => ?_, fun K V k1 k2 k3 => ?_⟩
      · have hi := (onn i).mp hi
        rw [(hag i (lt i hi)).2]
        have := t2 i ((onr i).mpr hi)
        omega
      · have tr := t3 K V (fun i hi => (k1 i (by omega)).trans (hag i hi).1) (fun i hi ho => (k2 i (by omega) (fun z => ho ((onr i).mpr ((onn i).mp z)))).trans (hag i hi).2) (fun i hi => by
          have hi := (onr i).mp hi
          have := k3 i ((onn i).mpr hi)
          rw [(hag i (lt i hi)).2] at this
          exact this)
        rw [wk_tr_S z0 tr, wk_cv_c x5]
        have q := p3 (wk_cv (fun i => V i - wk_V 0 h i) r) (wk_cv_ul r)
        have q2 := wk_pf_R (K' := K) (V' := V) q (fun i i1 i2 => by
          have i1 : (wk_n 0 h).toNat ≤ i := i1
          have i2 : i < (wk_n 0 h').toNat := i2
          exact ⟨k1 i (by omega), k2 i (by omega) (fun z => by have := lt i ((onn i).mp z); omega)⟩)
        rw [q2, p2, wk_cv_P p1]
        rw [wk_cv_eq (D := fun i => V i - wk_V 0 h i) (D' := fun i => V i - wk_V 0 h' i) r (fun i hi => by rw [(hag i (lt i hi)).2])]
  · -- many: its node comes
    obtain ⟨t1, t2, t3⟩ : ta_I h0 zt h := hI.2.2.2.1
    have hg : wk_gc (mi_a h0) (mi_a h) := wk_gc_fr hI.2.1 hS0 rfl
    have i11 := hI.1.2.2.2.2.2.2.2.2.2.2
    rw [hst] at t1 t2 t3
    have t1r : wk_ix r (wk_n 0 h) := t1
    have onr : ∀ i, wk_on i ((0, w, a) :: r) ↔ wk_on i r := fun i => wk_on_P (P := [(0, w, a)]) (wk_n5_c (show (0 : Int) ≠ 5 from by decide) wk_n5_0)
    have lt : ∀ i, wk_on i r → (i : Int) < wk_n 0 h := wk_ix_on r _ t1r
    have onn : ∀ i, wk_on i (wk_stk h') ↔ (i = (wk_n 0 h).toNat ∨ wk_on i r) := fun i => by
      rw [hst']
      constructor
      · intro ⟨x, hx, x5, xi⟩
        rcases List.mem_cons.mp hx with rfl | hx
        · exact Or.inl xi.symm
        · rcases List.mem_cons.mp hx with rfl | hx
          · exact absurd x5 (show ¬ (2 : Int) = 5 from by decide)
          · exact Or.inr ⟨x, hx, x5, xi⟩
      · intro z
        rcases z with rfl | ⟨x, hx, x5, xi⟩
        · exact ⟨_, List.mem_cons_self .., rfl, rfl⟩
        · exact ⟨x, List.mem_cons_of_mem _ (List.mem_cons_of_mem _ hx), x5, xi⟩
    refine ⟨?_, fun i hi => ?_, fun K V k1 k2 k3 => ?_⟩
    · rw [hst']
      unfold wk_ix
      rw [if_pos rfl]
      exact ⟨i11, by show wk_n 0 h < wk_n 0 h'; omega, t1r⟩
    · rcases (onn i).mp hi with rfl | hi
      · rw [hv']
        omega
      · rw [(hag i (lt i hi)).2]
        have := t2 i ((onr i).mpr hi)
        omega
    · have tr := t3 K V (fun i hi => (k1 i (by omega)).trans (hag i hi).1) (fun i hi ho => (k2 i (by omega) (fun z => by
          rcases (onn i).mp z with z | z
          · omega
          · exact ho ((onr i).mpr z))).trans (hag i hi).2) (fun i hi => by
        have hi := (onr i).mp hi
        have := k3 i ((onn i).mpr (Or.inr hi))
        rw [(hag i (lt i hi)).2] at this
        exact this)
      have k3n := k3 (wk_n 0 h).toNat ((onn _).mpr (Or.inl rfl))
      rw [hv'] at k3n
      have k1n := k1 (wk_n 0 h).toNat (by omega)
      rw [hk'] at k1n
      rw [wk_tr_S z0 tr, wk_cv_c (show (0 : Int) ≠ 5 from by decide)]
      unfold wk_pf
      dsimp only
      have en : (wk_n 0 h').toNat = (wk_n 0 h).toNat + 1 := by omega
      rw [if_pos rfl, if_pos (by rw [← hg 122 (by decide)]; exact hw), if_pos ⟨k1n, k3n⟩, hst', wk_cv_5, wk_cv_c (show (2 : Int) ≠ 5 from by decide), hv', Int.sub_zero, en]
      rw [wk_cv_eq (D := fun i => V i - wk_V 0 h i) (D' := fun i => V i - wk_V 0 h' i) r (fun i hi => by rw [(hag i (lt i hi)).2])]
  · -- no more of it
    obtain ⟨t1, t2, t3⟩ : ta_I h0 zt h := hI.2.2.2.1
    have i11 := hI.1.2.2.2.2.2.2.2.2.2.2
    rw [hst] at t1 t2 t3
    have t1a : 0 ≤ a ∧ a < wk_n 0 h ∧ wk_ix r a := t1
    obtain ⟨a0, a1, t1r⟩ := t1a
    have lt : ∀ i, wk_on i r → (i : Int) < a := wk_ix_on r _ t1r
    have onr : ∀ i, wk_on i ((5, w, a) :: r) → i = a.toNat ∨ wk_on i r := fun i ⟨x, hx, x5, xi⟩ => by
      rcases List.mem_cons.mp hx with rfl | hx
      · exact Or.inl xi.symm
      · exact Or.inr ⟨x, hx, x5, xi⟩
    have onc : ∀ i, wk_on i r → wk_on i ((5, w, a) :: r) := fun i ⟨x, hx, x5, xi⟩ => ⟨x, List.mem_cons_of_mem _ hx, x5, xi⟩
    have ona : wk_on a.toNat ((5, w, a) :: r) := ⟨_, List.mem_cons_self .., rfl, rfl⟩
    refine ⟨by rw [hst', hn']; exact wk_ix_mono _ _ _ t1r (by omega), fun i hi => ?_, fun K V k1 k2 k3 => ?_⟩
    · rw [hst'] at hi
      have l := lt i hi
      rw [(hag i (by omega)).2]
      have := t2 i (onc i hi)
      omega
    · rw [hn'] at k1 k2
      rw [hst'] at k2 k3
      have va : V a.toNat = wk_V 0 h a.toNat := (k2 a.toNat (by omega) (fun z => by have := lt _ z; omega)).trans (hag a.toNat (by omega)).2
      have tr := t3 K V (fun i hi => (k1 i hi).trans (hag i hi).1) (fun i hi ho => (k2 i hi (fun z => ho (onc i z))).trans (hag i hi).2) (fun i hi => by
        rcases onr i hi with rfl | hi
        · have := t2 _ ona
          rw [va]
          omega
        · have l := lt i hi
          have := k3 i hi
          rw [(hag i (by omega)).2] at this
          exact this)
      rw [wk_tr_S z0 tr, wk_cv_5]
      unfold wk_pf
      dsimp only
      rw [if_neg (by decide), if_neg (by decide), if_pos rfl, if_neg (by omega), hst', hn']
      rw [wk_cv_eq (D := fun i => V i - wk_V 0 h i) (D' := fun i => V i - wk_V 0 h' i) r (fun i hi => by have := lt i hi; rw [(hag i (by omega)).2])]
  · -- once more
    obtain ⟨t1, t2, t3⟩ : ta_I h0 zt h := hI.2.2.2.1
    have hg : wk_gc (mi_a h0) (mi_a h) := wk_gc_fr hI.2.1 hS0 rfl
    have i11 := hI.1.2.2.2.2.2.2.2.2.2.2
    rw [hst] at t1 t2 t3
    have t1a : 0 ≤ a ∧ a < wk_n 0 h ∧ wk_ix r a := t1
    obtain ⟨a0, a1, t1r⟩ := t1a
    have lt : ∀ i, wk_on i r → (i : Int) < a := wk_ix_on r _ t1r
    have onr : ∀ i, wk_on i ((5, w, a) :: r) → i = a.toNat ∨ wk_on i r := fun i ⟨x, hx, x5, xi⟩ => by
      rcases List.mem_cons.mp hx with rfl | hx
      · exact Or.inl xi.symm
      · exact Or.inr ⟨x, hx, x5, xi⟩
    have onlt : ∀ i, wk_on i ((5, w, a) :: r) → (i : Int) < wk_n 0 h := fun i hi => by
      rcases onr i hi with rfl | hi
      · omega
      · have := lt i hi
        omega
    have ona : wk_on a.toNat ((5, w, a) :: r) := ⟨_, List.mem_cons_self .., rfl, rfl⟩
    rw [wk_sg_g hg] at hsg
    obtain ⟨P, p1, p2, p3⟩ := wk_sg_P hsg
    have onn : ∀ i, wk_on i (wk_stk h') ↔ wk_on i ((5, w, a) :: r) := fun i => by rw [p2]; exact wk_on_P p1
    refine ⟨by rw [p2]; exact wk_ix_P p1 (wk_ix_mono _ _ _ t1 hle), fun i hi => ?_, fun K V k1 k2 k3 => ?_⟩
    · have hi := (onn i).mp hi
      have := t2 i hi
      rw [(hag i (onlt i hi)).2]
      split <;> omega
    · have ka := k3 a.toNat ((onn _).mpr ona)
      rw [(hag a.toNat (by omega)).2, if_pos rfl] at ka
      have tr := t3 K V (fun i hi => (k1 i (by omega)).trans (hag i hi).1) (fun i hi ho => by
        have := k2 i (by omega) (fun z => ho ((onn i).mp z))
        rw [(hag i hi).2, if_neg (fun e => ho (by rw [e]; exact ona))] at this
        exact this) (fun i hi => by
        have h1 := k3 i ((onn i).mpr hi)
        rw [(hag i (onlt i hi)).2] at h1
        split at h1 <;> omega)
      rw [wk_tr_S z0 tr, wk_cv_5]
      unfold wk_pf
      dsimp only
      rw [if_neg (by decide), if_neg (by decide), if_pos rfl, if_pos (by omega)]
      have q := p3 ((5, w, V a.toNat - wk_V 0 h a.toNat - 1) :: wk_cv (fun i => V i - wk_V 0 h i) r) (by rw [wk_ul_c (by decide), wk_ul_c (by decide), wk_cv_ul])
      have q2 := wk_sg_R (K' := K) q (fun i i1 i2 => k1 i (by omega))
      rw [q2, p2, wk_cv_P p1, wk_cv_5, (hag a.toNat (by omega)).2, if_pos rfl]
      rw [wk_cv_eq (D := fun i => V i - wk_V 0 h i) (D' := fun i => V i - wk_V 0 h' i) r (fun i hi => by have := lt i hi; rw [(hag i (by omega)).2, if_neg (by omega)])]
      have e : V a.toNat - wk_V 0 h a.toNat - 1 = V a.toNat - (wk_V 0 h a.toNat + 1) := by omega
      rw [e]
end INS
