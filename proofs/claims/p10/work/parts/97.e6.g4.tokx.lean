/-! the reference's tokens, exactly -/
def tq_L (h : sm_H) (k : Nat) : Int := if (mx_b h 118 k).toInt = 0 then -(mi_a h 117 k) else (mx_b h 118 k).toInt
def tq_O (h : sm_H) : Prop := ∀ k : Nat, (k : Int) < mi_f h 13962 → 0 ≤ (mx_b h 118 k).toInt ∧ 0 ≤ mi_a h 117 k
theorem tx_decL {V : Int64} {X : Int} (v0 : 0 ≤ V.toInt) (v1 : V.toInt < 10000) (x0 : 48 ≤ X) (x1 : X ≤ 57) : ((((Int64.ofNat 10) * V) + ((Int32.ofInt X).toInt64)) - (Int64.ofNat 48)).toInt = 10 * V.toInt + (X - 48) := by
  have okc : mi_in X := ⟨by omega, by omega⟩
  have e10 : (Int64.ofNat 10).toInt = 10 := rfl
  have e48 : (Int64.ofNat 48).toInt = 48 := rfl
  have em : (Int64.ofNat 10 * V).toInt = 10 * V.toInt := by
    rw [Int64.toInt_mul, e10]
    exact Int.bmod_eq_of_le (by omega) (by omega)
  have ea : (Int64.ofNat 10 * V + (Int32.ofInt X).toInt64).toInt = 10 * V.toInt + X := by
    rw [Int64.toInt_add, em, Int32.toInt_toInt64, mi_ti okc]
    exact Int.bmod_eq_of_le (by omega) (by omega)
  rw [Int64.toInt_sub, ea, e48, Int.bmod_eq_of_le (by omega) (by omega)]
  omega
section TQP
variable {d : Nat} {h : sm_H} {zc : Int}
theorem me_blx (hS : ab_Sh sx_sk h) (oc : mi_in zc) : me_E d 178 0 [some (.inl zc)] [] h (fun w h' => h' = h ∧ ∃ z, w = some (.inl z) ∧ mi_in z ∧ (z ≠ 0 ↔ tx_blk zc)) := by
  refine mt_vbl hS oc ?_ ?_ ?_
  · intro c h1 g1 g2
    exact ⟨me_nil g2, _, rfl, ⟨by decide, by decide⟩, by unfold tx_blk; omega⟩
  · intro c c2 h1 g1 g2
    exact ⟨me_nil g2, _, rfl, ⟨by decide, by decide⟩, by unfold tx_blk; omega⟩
  · intro c c2 h1 g1 g2
    exact ⟨me_nil g2, _, rfl, ⟨by decide, by decide⟩, by unfold tx_blk; omega⟩
theorem me_lox (hS : ab_Sh sx_sk h) (oc : mi_in zc) : me_E d 180 0 [some (.inl zc)] [] h (fun w h' => h' = h ∧ ∃ z, w = some (.inl z) ∧ mi_in z ∧ (z ≠ 0 ↔ tx_low zc)) := by
  refine mt_vlo hS oc ?_ ?_ ?_
  · intro c h1 g1 g2
    exact ⟨me_nil g2, _, rfl, ⟨by decide, by decide⟩, by unfold tx_low; omega⟩
  · intro c c2 h1 g1 g2
    exact ⟨me_nil g2, _, rfl, ⟨by decide, by decide⟩, by unfold tx_low; omega⟩
  · intro c c2 h1 g1 g2
    exact ⟨me_nil g2, _, rfl, ⟨by decide, by decide⟩, by unfold tx_low; omega⟩
theorem me_dix (hS : ab_Sh sx_sk h) (oc : mi_in zc) : me_E d 182 0 [some (.inl zc)] [] h (fun w h' => h' = h ∧ ∃ z, w = some (.inl z) ∧ mi_in z ∧ (z ≠ 0 ↔ tx_dig zc)) := by
  refine mt_vdi hS oc ?_ ?_ ?_
  · intro c h1 g1 g2
    exact ⟨me_nil g2, _, rfl, ⟨by decide, by decide⟩, by unfold tx_dig; omega⟩
  · intro c c2 h1 g1 g2
    exact ⟨me_nil g2, _, rfl, ⟨by decide, by decide⟩, by unfold tx_dig; omega⟩
  · intro c c2 h1 g1 g2
    exact ⟨me_nil g2, _, rfl, ⟨by decide, by decide⟩, by unfold tx_dig; omega⟩
theorem tq_z {x : Int64} : (x = Int64.ofNat 0) ↔ x.toInt = 0 := by
  constructor
  · intro e
    rw [e]
    rfl
  · intro e
    exact Int64.toInt_inj.mp (e.trans (by rfl))
theorem me_sox (hS : ab_Sh sx_sk h) (oc : mi_in zc) (c0 : 0 ≤ zc) (hO : tq_O h) : me_E d 230 0 [some (.inr (.inr 109)), some (.inl zc), none] [] h (fun w h' => h' = h ∧ ∃ z, -1 ≤ z ∧ z < 20 ∧ fx (mi_f h 13962) (tq_L h) (-zc) z ∧ w = some (.inl (if z = -1 then -1 else 3 + z))) := by
  have main : ∀ (N : Nat) (zl : Int), 20 - zl < N → 0 ≤ zl → zl ≤ 20 → (∀ l : Nat, (l : Int) < zl → tq_L h l ≠ -zc) → me_E d 230 2 [some (.inr (.inr 109)), some (.inl zc), some (.inl zl)] [] h (fun w h' => h' = h ∧ ∃ z, -1 ≤ z ∧ z < 20 ∧ fx (mi_f h 13962) (tq_L h) (-zc) z ∧ w = some (.inl (if z = -1 then -1 else 3 + z))) := by
    intro N
    induction N with
    | zero => intro zl hN; omega
    | succ N ih =>
      intro zl hN l0 l1 hno
      have back : ∀ h1, ab_Sh sx_sk h1 → ab_Fr [] h h1 → zl < 20 → tq_L h zl.toNat ≠ -zc → me_E d 230 2 [some (.inr (.inr 109)), some (.inl zc), some (.inl (zl + 1))] [] h1 (fun w h' => h' = h ∧ ∃ z, -1 ≤ z ∧ z < 20 ∧ fx (mi_f h 13962) (tq_L h) (-zc) z ∧ w = some (.inl (if z = -1 then -1 else 3 + z))) := by
        intro h1 g1 g2 c2 nn
        have e := me_nil g2
        subst e
        refine ih (zl + 1) (by omega) (by omega) (by omega) (fun l hl => ?_)
        by_cases e : (l : Int) = zl
        · have : zl.toNat = l := by omega
          rw [← this]
          exact nn
        · exact hno l (by omega)
      refine mt_vsB hS oc ⟨by omega, by omega⟩ ?_ ?_ ?_ ?_
      · intro b c h1 g1 g2
        exact ⟨me_nil g2, -1, by decide, by decide, Or.inr ⟨rfl, fun j hj => hno j (by omega)⟩, by rw [if_pos rfl]⟩
      · intro b c c2
        refine ⟨⟨by omega, by omega⟩, fun h1 g1 g2 => back h1 g1 g2 (by omega) ?_⟩
        have n0 : (mx_b h 118 zl.toNat).toInt ≠ 0 := fun q => gx_cmpn c2 (tq_z.mpr q)
        have := (hO zl.toNat (by omega)).1
        unfold tq_L
        rw [if_neg n0]
        omega
      · intro b c c2 c3
        refine ⟨⟨by omega, by omega⟩, fun h1 g1 g2 => back h1 g1 g2 (by omega) ?_⟩
        have n0 : (mx_b h 118 zl.toNat).toInt = 0 := tq_z.mp (lg_cmp0 c2)
        unfold tq_L
        rw [if_pos n0]
        omega
      · intro b c c2 c3
        refine ⟨⟨by omega, by omega⟩, fun h1 g1 g2 => ?_⟩
        have n0 : (mx_b h 118 zl.toNat).toInt = 0 := tq_z.mp (lg_cmp0 c2)
        refine ⟨me_nil g2, zl, by omega, by omega, Or.inl ⟨l0, c, ?_, hno⟩, by rw [if_neg (by omega)]⟩
        unfold tq_L
        rw [if_pos n0, c3]
  refine mt_vsA hS oc ?_
  intro h1 g1 g2
  have e := me_nil g2
  subst e
  exact main 30 0 (by omega) (by omega) (by omega) (fun l hl => by omega)
theorem me_kox {zw : Int64} (hS : ab_Sh sx_sk h) (w0 : 1 ≤ zw.toInt) (hO : tq_O h) : me_E d 216 0 [some (.inr (.inr 109)), some (.inr (.inl zw)), none, none] [] h (fun w h' => h' = h ∧ ∃ z, -1 ≤ z ∧ z < 20 ∧ fx (mi_f h 13962) (tq_L h) zw.toInt z ∧ w = some (.inl z)) := by
  have main : ∀ (N : Nat) (zl : Int), 20 - zl < N → 0 ≤ zl → zl ≤ 20 → (∀ l : Nat, (l : Int) < zl → tq_L h l ≠ zw.toInt) → me_E d 216 2 [some (.inr (.inr 109)), some (.inr (.inl zw)), none, some (.inl zl)] [] h (fun w h' => h' = h ∧ ∃ z, -1 ≤ z ∧ z < 20 ∧ fx (mi_f h 13962) (tq_L h) zw.toInt z ∧ w = some (.inl z)) := by
    intro N
    induction N with
    | zero => intro zl hN; omega
    | succ N ih =>
      intro zl hN l0 l1 hno
      have back : ∀ h1, ab_Sh sx_sk h1 → ab_Fr [] h h1 → zl < 20 → tq_L h zl.toNat ≠ zw.toInt → me_E d 216 2 [some (.inr (.inr 109)), some (.inr (.inl zw)), none, some (.inl (zl + 1))] [] h1 (fun w h' => h' = h ∧ ∃ z, -1 ≤ z ∧ z < 20 ∧ fx (mi_f h 13962) (tq_L h) zw.toInt z ∧ w = some (.inl z)) := by
        intro h1 g1 g2 c2 nn
        have e := me_nil g2
        subst e
        refine ih (zl + 1) (by omega) (by omega) (by omega) (fun l hl => ?_)
        by_cases e : (l : Int) = zl
        · have : zl.toNat = l := by omega
          rw [← this]
          exact nn
        · exact hno l (by omega)
      refine mt_kwB hS ⟨by omega, by omega⟩ ?_ ?_ ?_ ?_
      · intro b c h1 g1 g2
        exact ⟨me_nil g2, -1, by decide, by decide, Or.inr ⟨rfl, fun j hj => hno j (by omega)⟩, rfl⟩
      · intro b c c2
        refine ⟨⟨by omega, ⟨by omega, by omega⟩⟩, fun h1 g1 g2 => back h1 g1 g2 (by omega) ?_⟩
        have n0 : (mx_b h 118 zl.toNat).toInt = 0 := tq_z.mp (lg_cmp0 c2)
        have := (hO zl.toNat (by omega)).2
        unfold tq_L
        rw [if_pos n0]
        omega
      · intro b c c2 c3
        refine ⟨⟨by omega, ⟨by omega, by omega⟩⟩, fun h1 g1 g2 => back h1 g1 g2 (by omega) ?_⟩
        have n0 : (mx_b h 118 zl.toNat).toInt ≠ 0 := fun q => gx_cmpn c2 (tq_z.mpr q)
        unfold tq_L
        rw [if_neg n0]
        intro q
        exact gx_cmpn c3 (Int64.toInt_inj.mp q)
      · intro b c c2 c3
        refine ⟨by omega, fun h1 g1 g2 => ?_⟩
        have n0 : (mx_b h 118 zl.toNat).toInt ≠ 0 := fun q => gx_cmpn c2 (tq_z.mpr q)
        refine ⟨me_nil g2, zl, by omega, by omega, Or.inl ⟨l0, c, ?_, hno⟩, rfl⟩
        unfold tq_L
        rw [if_neg n0, lg_cmp0 c3]
  refine mt_kwA hS ?_
  intro h1 g1 g2
  have e := me_nil g2
  subst e
  exact main 30 0 (by omega) (by omega) (by omega) (fun l hl => by omega)
end TQP
def tq_T0 (h0 : sm_H) (a k v s e : Int) : Prop := tq_T (mi_f h0 13954) (mi_a h0 111) (mi_f h0 13962) (tq_L h0) a k v s e
def ty_H (h0 hh h : sm_H) : Prop := ab_Sh sx_sk h ∧ ab_Fr tk_W h0 h ∧ mi_f h 14011 = mi_f hh 14011 ∧ (∀ i, mi_a h 152 i = mi_a hh 152 i) ∧ ∀ i, i ≠ (mi_f hh 14011).toNat → mx_b h 154 i = mx_b hh 154 i
def ty_C (d : Nat) (h0 hh : sm_H) (a zk : Int) (Q : Option mi_V → sm_H → Prop) : Prop := ∀ (ze : Int) (q2 q3 q4 q5 q6 q7 : Option mi_V) (h1 : sm_H), zk < ze → ze ≤ mi_f h0 13954 → (∀ v, q2 = some v → mi_ok v) → (∀ v, q3 = some v → mi_ok v) → (∀ v, q4 = some v → mi_ok v) → (∀ v, q5 = some v → mi_ok v) → (∀ v, q6 = some v → mi_ok v) → (∀ v, q7 = some v → mi_ok v) → ab_Sh sx_sk h1 → ab_Fr tk_W h0 h1 → mi_f h1 14011 = mi_f hh 14011 + 1 → (∀ i, i ≠ (mi_f hh 14011).toNat → mi_a h1 152 i = mi_a hh 152 i) → (∀ i, i ≠ (mi_f hh 14011).toNat → mx_b h1 154 i = mx_b hh 154 i) → 0 ≤ (mx_b h1 154 (mi_f hh 14011).toNat).toInt → (mx_b h1 154 (mi_f hh 14011).toNat).toInt < 1073741824 → tq_T0 h0 a (mi_a h1 152 (mi_f hh 14011).toNat) (mx_b h1 154 (mi_f hh 14011).toNat).toInt zk ze → me_E (d + 1) 229 7 [some (.inr (.inr 109)), some (.inl ze), q2, q3, q4, q5, q6, q7] [] h1 Q
section TQM
variable {d : Nat} {h0 hh : sm_H} {a zk : Int} {Q : Option mi_V → sm_H → Prop}
theorem ty_fin {ze K : Int} {q2 q3 q4 q5 q6 q7 : Option mi_V} {h h1 : sm_H} (hC : ty_C d h0 hh a zk Q) (hH : ty_H h0 hh h) (e0 : zk < ze) (e1 : ze ≤ mi_f h0 13954) (o2 : ∀ v, q2 = some v → mi_ok v) (o3 : ∀ v, q3 = some v → mi_ok v) (o4 : ∀ v, q4 = some v → mi_ok v) (o5 : ∀ v, q5 = some v → mi_ok v) (o6 : ∀ v, q6 = some v → mi_ok v) (o7 : ∀ v, q7 = some v → mi_ok v) (g1 : ab_Sh sx_sk h1) (g2 : mi_f h1 14011 = mi_f h 14011 + 1) (g3 : ∀ i, mi_a h1 152 i = if i = (mi_f h 14011).toNat then K else mi_a h 152 i) (g4 : ab_Fr [(14011, 14012), (19456, 19457)] h h1) (v0 : 0 ≤ (mx_b h 154 (mi_f hh 14011).toNat).toInt) (v1 : (mx_b h 154 (mi_f hh 14011).toNat).toInt < 1073741824) (hT : tq_T0 h0 a K (mx_b h 154 (mi_f hh 14011).toNat).toInt zk ze) : me_E (d + 1) 229 7 [some (.inr (.inr 109)), some (.inl ze), q2, q3, q4, q5, q6, q7] [] h1 Q := by
  obtain ⟨x1, x2, x3, x4, x5⟩ := hH
  have eb : ∀ i, mx_b h1 154 i = mx_b h 154 i := fun i => me_b (k := 154) g4 x1 rfl rfl
  refine hC ze _ _ _ _ _ _ h1 e0 e1 o2 o3 o4 o5 o6 o7 g1 (x2.trans (g4.wide (fun c hc => ab_swr_ok (by decide) hc))) (by omega) (fun i hi => ?_) (fun i hi => ?_) ?_ ?_ ?_
  · rw [g3, if_neg (by rw [x3]; exact hi), x4]
  · rw [eb]
    exact x5 i hi
  · rw [eb]
    exact v0
  · rw [eb]
    exact v1
  · rw [eb, g3, if_pos (by rw [x3])]
    exact hT
theorem ty_step {h h1 : sm_H} {x : Int64} (hH : ty_H h0 hh h) (g1 : ab_Sh sx_sk h1) (g2 : ∀ i, mx_b h1 154 i = if i = (mi_f h 14011).toNat then x else mx_b h 154 i) (g3 : ab_Fr [(19712, 19713)] h h1) : ty_H h0 hh h1 ∧ mx_b h1 154 (mi_f hh 14011).toNat = x := by
  obtain ⟨x1, x2, x3, x4, x5⟩ := hH
  refine ⟨⟨g1, x2.trans (g3.wide (fun c hc => ab_swr_ok (by decide) hc)), (me_f (c := 14011) g3 x1 rfl rfl).trans x3, fun i => (me_a (k := 152) g3 x1 rfl rfl).trans (x4 i), fun i hi => ?_⟩, ?_⟩
  · rw [g2, if_neg (by rw [x3]; exact hi)]
    exact x5 i hi
  · rw [g2, if_pos (by rw [x3])]
theorem ty135 {zc zl zd ze : Int} (hC : ty_C d h0 hh a zk Q) (hS0 : ab_Sh sx_sk h0) (k0 : 0 ≤ zk) (hb : tx_end tx_blk (mi_f h0 13954) (mi_a h0 111) a zk) (t1 : mi_f hh 14011 ≤ zk) (e0 : zk < ze) (e1 : ze ≤ mi_f h0 13954) (he : tx_end tx_dig (mi_f h0 13954) (mi_a h0 111) zk ze) (oc : mi_in zc) (ol : mi_in zl) (od : mi_in zd) : ∀ (N : Nat) (zj : Int) (h : sm_H), ze - zj < N → zk ≤ zj → zj ≤ ze → ty_H h0 hh h → (5 ≤ ze - zk → zj = zk ∧ (mx_b h 154 (mi_f hh 14011).toNat).toInt = 0) → (ze - zk < 5 → (mx_b h 154 (mi_f hh 14011).toNat).toInt = tx_dec (mi_a h0 111) zk (zj - zk).toNat) → me_E (d + 1) 229 135 [some (.inr (.inr 109)), some (.inl zk), some (.inl zc), some (.inl zl), some (.inl zd), some (.inl ze), some (.inl (ze - zk)), some (.inl zj)] [] h Q := by
  have e2 := (me_fb (c := 13954) hS0 rfl).2
  have hdig := (he.2.1 zk (Int.le_refl _) e0).2
  intro N
  induction N with
  | zero => intro zj h hN _ _; exfalso; omega
  | succ N ih =>
    intro zj h hN j0 j1 hH hA hB
    have hS := hH.1
    have x3 := hH.2.2.1
    have ok : mi_in zk := ⟨by omega, by omega⟩
    have oe : mi_in ze := ⟨by omega, by omega⟩
    have oj : mi_in zj := ⟨by omega, by omega⟩
    have on : mi_in (ze - zk) := ⟨by omega, by omega⟩
    refine mt_tk9 hS ok oc ol od oe on oj ?_ ?_ ?_ ?_
    · intro b c1 c2
      exfalso
      have := hA (by omega)
      omega
    · intro b c1 c2
      have ej : zj = ze := by omega
      subst ej
      have hv := hB (by omega)
      have vb := tx_dec_b (c := mi_a h0 111) (k := zk) (zj - zk).toNat (fun j a1 a2 => (he.2.1 j a1 (by omega)).2)
      have p4 : (10 : Int) ^ (zj - zk).toNat ≤ 10 ^ 4 := by
        have : (10 : Nat) ^ (zj - zk).toNat ≤ 10 ^ 4 := Nat.pow_le_pow_right (by decide) (by omega)
        exact_mod_cast this
      have e44 : (10 : Int) ^ 4 = 10000 := by decide
      refine ⟨by omega, fun h1 g1 g2 g3 g4 => ?_⟩
      exact ty_fin hC hH e0 e1 (me_oi oc) (me_oi ol) (me_oi od) (me_oi oe) (me_oi on) (me_oi oj) g1 g2 g3 g4 (by omega) (by omega) ⟨hb, Or.inr ⟨by omega, Or.inl ⟨hdig, he, Or.inl ⟨by omega, rfl, hv⟩⟩⟩⟩
    · intro b c1 c2
      have hv := (hA (by omega)).2
      refine ⟨by omega, fun h1 g1 g2 g3 g4 => ?_⟩
      exact ty_fin hC hH e0 e1 (me_oi oc) (me_oi ol) (me_oi od) (me_oi oe) (me_oi on) (me_oi oj) g1 g2 g3 g4 (by omega) (by omega) ⟨hb, Or.inr ⟨by omega, Or.inl ⟨hdig, he, Or.inr ⟨by omega, rfl⟩⟩⟩⟩
    · intro b c1 c2
      have hv := hB c2
      have hz := (he.2.1 zj j0 c1).2
      have vb := tx_dec_b (c := mi_a h0 111) (k := zk) (zj - zk).toNat (fun j a1 a2 => (he.2.1 j a1 (by omega)).2)
      have p4 : (10 : Int) ^ (zj - zk).toNat ≤ 10 ^ 4 := by
        have : (10 : Nat) ^ (zj - zk).toNat ≤ 10 ^ 4 := Nat.pow_le_pow_right (by decide) (by omega)
        exact_mod_cast this
      have e44 : (10 : Int) ^ 4 = 10000 := by decide
      have ea : mi_a h 111 zj.toNat = mi_a h0 111 zj.toNat := me_a (k := 111) hH.2.1 hS0 rfl rfl
      refine ⟨by omega, fun h1 g1 g2 g3 => ?_⟩
      obtain ⟨s1, s2⟩ := ty_step hH g1 g2 g3
      refine ih (zj + 1) h1 (by omega) (by omega) (by omega) s1 (fun q => by omega) (fun _ => ?_)
      have en : (zj + 1 - zk).toNat = (zj - zk).toNat + 1 := by omega
      have ez : (zk + ((zj - zk).toNat : Int)).toNat = zj.toNat := by omega
      rw [s2, ea, x3, tx_decL (by omega) (by omega) hz.1 hz.2, en, hv]
      show _ = 10 * tx_dec (mi_a h0 111) zk (zj - zk).toNat + (mi_a h0 111 (zk + ((zj - zk).toNat : Int)).toNat - 48)
      rw [ez]
theorem tx_code_1 {c : Nat → Int} {k : Int} {m : Nat} (h : ∀ j, k ≤ j → j < k + ((m + 1 : Nat) : Int) → tx_low (c j.toNat)) : 1 ≤ tx_code c k (m + 1) := by
  have h1 := (h k (Int.le_refl _) (by omega)).1
  have h2 := (tx_code_b (c := c) m (k + 1) (fun j a b => h j (by omega) (by omega))).1
  show 1 ≤ (c k.toNat - 96) + 32 * tx_code c (k + 1) m
  omega
theorem ty222 {zc zl zd ze : Int} (hC : ty_C d h0 hh a zk Q) (hS0 : ab_Sh sx_sk h0) (hO : tq_O h0) (k0 : 0 ≤ zk) (hb : tx_end tx_blk (mi_f h0 13954) (mi_a h0 111) a zk) (t1 : mi_f hh 14011 ≤ zk) (e0 : zk < ze) (e1 : ze ≤ mi_f h0 13954) (he : tx_end tx_low (mi_f h0 13954) (mi_a h0 111) zk ze) (oc : mi_in zc) (ol : mi_in zl) (od : mi_in zd) : ∀ (N : Nat) (zj : Int) (h : sm_H), zj - zk + 1 < N → zk - 1 ≤ zj → zj < ze → ty_H h0 hh h → (7 ≤ ze - zk → (mx_b h 154 (mi_f hh 14011).toNat).toInt = 0) → (ze - zk < 7 → (mx_b h 154 (mi_f hh 14011).toNat).toInt = tx_code (mi_a h0 111) (zj + 1) (ze - 1 - zj).toNat) → me_E (d + 1) 229 222 [some (.inr (.inr 109)), some (.inl zk), some (.inl zc), some (.inl zl), some (.inl zd), some (.inl ze), some (.inl (ze - zk)), some (.inl zj)] [] h Q := by
  have e2 := (me_fb (c := 13954) hS0 rfl).2
  have hlow := (he.2.1 zk (Int.le_refl _) e0).2
  intro N
  induction N with
  | zero => intro zj h hN _ _; exfalso; omega
  | succ N ih =>
    intro zj h hN j0 j1 hH hA hB
    have hS := hH.1
    have x3 := hH.2.2.1
    have ok : mi_in zk := ⟨by omega, by omega⟩
    have oe : mi_in ze := ⟨by omega, by omega⟩
    have oj : mi_in zj := ⟨by omega, by omega⟩
    have on : mi_in (ze - zk) := ⟨by omega, by omega⟩
    have o1 : mi_in (-1) := ⟨by decide, by decide⟩
    have long : 7 ≤ ze - zk → ∀ h1, ab_Sh sx_sk h1 → mi_f h1 14011 = mi_f h 14011 + 1 → (∀ i, mi_a h1 152 i = if i = (mi_f h 14011).toNat then -1 else mi_a h 152 i) → ab_Fr [(14011, 14012), (19456, 19457)] h h1 → me_E (d + 1) 229 7 [some (.inr (.inr 109)), some (.inl ze), some (.inl zc), some (.inl zl), some (.inl zd), some (.inl ze), some (.inl (ze - zk)), some (.inl (-1))] [] h1 Q := fun c h1 g1 g2 g3 g4 => by
      have hv := hA c
      exact ty_fin hC hH e0 e1 (me_oi oc) (me_oi ol) (me_oi od) (me_oi oe) (me_oi on) (me_oi o1) g1 g2 g3 g4 (by omega) (by omega) ⟨hb, Or.inr ⟨by omega, Or.inr (Or.inl ⟨hlow, he, Or.inr ⟨by omega, rfl⟩⟩)⟩⟩
    refine mt_tk10 hS ok oc ol od oe on oj ?_ ?_ ?_ ?_ ?_ ?_
    · intro b c1 c2 c3
      exfalso; omega
    · intro b c1 c2 c3
      exact ⟨by omega, long c2⟩
    · intro b c1 c2
      have ej : zj = zk - 1 := by omega
      subst ej
      have hv := hB c2
      rw [show zk - 1 + 1 = zk by omega, show ze - 1 - (zk - 1) = ze - zk by omega] at hv
      have em : (ze - zk).toNat = ((ze - zk).toNat - 1) + 1 := by omega
      have v1 : 1 ≤ tx_code (mi_a h0 111) zk (ze - zk).toNat := by
        rw [em]
        exact tx_code_1 (fun j a1 a2 => (he.2.1 j a1 (by omega)).2)
      have vb := tx_code_b (c := mi_a h0 111) (ze - zk).toNat zk (fun j a1 a2 => (he.2.1 j a1 (by omega)).2)
      have p6 : (32 : Int) ^ (ze - zk).toNat ≤ 32 ^ 6 := by
        have : (32 : Nat) ^ (ze - zk).toNat ≤ 32 ^ 6 := Nat.pow_le_pow_right (by decide) (by omega)
        exact_mod_cast this
      have e36 : (32 : Int) ^ 6 = 1073741824 := by decide
      refine ⟨by omega, fun h1 g1 g2 => ?_⟩
      have e3 := me_nil g2
      subst e3
      have f62 : mi_f h1 13962 = mi_f h0 13962 := me_f (c := 13962) hH.2.1 hS0 rfl rfl
      have fL : ∀ i, tq_L h1 i = tq_L h0 i := fun i => by
        unfold tq_L
        rw [me_b (k := 118) hH.2.1 hS0 rfl rfl, me_a (k := 117) hH.2.1 hS0 rfl rfl]
      have hO1 : tq_O h1 := fun k hk => by
        rw [me_b (k := 118) hH.2.1 hS0 rfl rfl, me_a (k := 117) hH.2.1 hS0 rfl rfl]
        exact hO k (by omega)
      rw [x3]
      refine ⟨_, me_kox g1 (by omega) hO1, fun w h2 ow hq => ?_⟩
      obtain ⟨rfl, z, z0, z1, hz, rfl⟩ := hq
      rw [f62, show tq_L h2 = tq_L h0 from funext fL, hv] at hz
      have oz : mi_in z := ⟨by omega, by omega⟩
      refine mt_tk11 g1 ok oc ol od oe on oj oz ?_ ?_ ?_
      · intro b c3 c4
        refine ⟨by omega, fun h3 r1 r2 r3 r4 => ?_⟩
        refine ty_fin hC hH e0 e1 (me_oi oc) (me_oi ol) (me_oi od) (me_oi oe) (me_oi on) (me_oi oz) r1 r2 r3 r4 (by omega) (by omega) ⟨hb, Or.inr ⟨by omega, Or.inr (Or.inl ⟨hlow, he, Or.inl ⟨by omega, hv, z, ?_, ?_⟩⟩)⟩⟩
        · rw [hv]
          exact hz
        · rw [if_pos (by omega)]
      · intro b c3 c4
        refine ⟨by omega, fun h3 r1 r2 r3 r4 => ?_⟩
        refine ty_fin hC hH e0 e1 (me_oi oc) (me_oi ol) (me_oi od) (me_oi oe) (me_oi on) (me_oi oz) r1 r2 r3 r4 (by omega) (by omega) ⟨hb, Or.inr ⟨by omega, Or.inr (Or.inl ⟨hlow, he, Or.inl ⟨by omega, hv, z, ?_, ?_⟩⟩)⟩⟩
        · rw [hv]
          exact hz
        · rw [if_neg (by omega)]
      · intro b c3
        exfalso; omega
    · intro b c1 c2 c3
      exfalso; omega
    · intro b c1 c2 c3
      exact ⟨by omega, long c2⟩
    · intro b c1 c2
      have hv := hB c2
      have hz := (he.2.1 zj c1 j1).2
      have vb := tx_code_b (c := mi_a h0 111) (ze - 1 - zj).toNat (zj + 1) (fun j a1 a2 => (he.2.1 j (by omega) (by omega)).2)
      have p5 : (32 : Int) ^ (ze - 1 - zj).toNat ≤ 32 ^ 5 := by
        have : (32 : Nat) ^ (ze - 1 - zj).toNat ≤ 32 ^ 5 := Nat.pow_le_pow_right (by decide) (by omega)
        exact_mod_cast this
      have e35 : (32 : Int) ^ 5 = 33554432 := by decide
      have ea : mi_a h 111 zj.toNat = mi_a h0 111 zj.toNat := me_a (k := 111) hH.2.1 hS0 rfl rfl
      refine ⟨by omega, fun h1 g1 g2 g3 => ?_⟩
      obtain ⟨s1, s2⟩ := ty_step hH g1 g2 g3
      refine ih (zj + -1) h1 (by omega) (by omega) (by omega) s1 (fun q => by omega) (fun _ => ?_)
      have em : (ze - 1 - zj).toNat + 1 = (ze - 1 - (zj - 1)).toNat := by omega
      rw [s2, ea, x3, tx_pack (by omega) (by omega) hz.1 hz.2, hv, show ze - 1 - (zj + -1) = ze - 1 - (zj - 1) by omega, ← em, show zj + -1 + 1 = zj by omega]
      rfl
end TQM
/-! the reference's tokenize, exactly -/
section TQN
variable {d : Nat} {h0 hh : sm_H} {a zk : Int} {Q : Option mi_V → sm_H → Prop}
theorem ty111 {zc zl zd ze : Int} {q6 q7 : Option mi_V} {h : sm_H} (hC : ty_C d h0 hh a zk Q) (hS0 : ab_Sh sx_sk h0) (hO : tq_O h0) (k0 : 0 ≤ zk) (hb : tx_end tx_blk (mi_f h0 13954) (mi_a h0 111) a zk) (t1 : mi_f hh 14011 ≤ zk) (e0 : zk < ze) (e1 : ze ≤ mi_f h0 13954) (hzc : zc = mi_a h0 111 zk.toNat) (c0 : 0 ≤ zc) (dl : zl ≠ 0 ↔ tx_low zc) (dd : zd ≠ 0 ↔ tx_dig zc) (hl : zl ≠ 0 → tx_end tx_low (mi_f h0 13954) (mi_a h0 111) zk ze) (hd : zd ≠ 0 → tx_end tx_dig (mi_f h0 13954) (mi_a h0 111) zk ze) (hn : zl = 0 → zd = 0 → ze = zk + 1) (oc : mi_in zc) (ol : mi_in zl) (od : mi_in zd) (o6 : ∀ v, q6 = some v → mi_ok v) (o7 : ∀ v, q7 = some v → mi_ok v) (hH : ty_H h0 hh h) : me_E (d + 1) 229 111 [some (.inr (.inr 109)), some (.inl zk), some (.inl zc), some (.inl zl), some (.inl zd), some (.inl ze), q6, q7] [] h Q := by
  have e2 := (me_fb (c := 13954) hS0 rfl).2
  have hS := hH.1
  have x3 := hH.2.2.1
  have ok : mi_in zk := ⟨by omega, by omega⟩
  have oe : mi_in ze := ⟨by omega, by omega⟩
  have on : mi_in (ze - zk) := ⟨by omega, by omega⟩
  have z64 : (Int64.ofNat 0).toInt = 0 := rfl
  refine mt_tk8 hS ok oc ol od oe o6 o7 ?_ ?_ ?_
  · intro b c1 c2
    have ez := hn c2 c1
    refine ⟨by omega, fun h1 g1 g2 g3 => ?_⟩
    obtain ⟨s1, s2⟩ := ty_step hH g1 g2 g3
    have f62 : mi_f h1 13962 = mi_f h0 13962 := me_f (c := 13962) s1.2.1 hS0 rfl rfl
    have fL : ∀ i, tq_L h1 i = tq_L h0 i := fun i => by
      unfold tq_L
      rw [me_b (k := 118) s1.2.1 hS0 rfl rfl, me_a (k := 117) s1.2.1 hS0 rfl rfl]
    have hO1 : tq_O h1 := fun k hk => by
      rw [me_b (k := 118) s1.2.1 hS0 rfl rfl, me_a (k := 117) s1.2.1 hS0 rfl rfl]
      exact hO k (by omega)
    refine ⟨_, me_sox g1 oc c0 hO1, fun w h2 ow hq => ?_⟩
    obtain ⟨rfl, z, z0, z1, hz, rfl⟩ := hq
    rw [f62, show tq_L h2 = tq_L h0 from funext fL] at hz
    have e11 : mi_f h 14011 = mi_f h2 14011 := x3.trans s1.2.2.1.symm
    have zb : -1 ≤ (if z = -1 then (-1 : Int) else 3 + z) ∧ (if z = -1 then (-1 : Int) else 3 + z) ≤ 22 := by
      by_cases q : z = -1
      · rw [if_pos q]; omega
      · rw [if_neg q]; omega
    have bt := me_fb (c := 14011) g1 rfl
    generalize hy : (if z = -1 then (-1 : Int) else 3 + z) = y at zb ⊢
    refine mt_tk12 g1 ok oc ol od oe on ⟨by omega, by omega⟩ ⟨by omega, by omega⟩ o7 ?_
    intro b2
    have s13 := s1.2.2.1
    refine ⟨by omega, fun h3 r1 r2 r3 r4 => ?_⟩
    rw [e11] at r3
    refine ty_fin hC s1 e0 e1 (me_oi oc) (me_oi ol) (me_oi od) (me_oi oe) (me_oi on) o7 r1 r2 r3 r4 (by rw [s2, z64]; omega) (by rw [s2, z64]; omega) ⟨hb, Or.inr ⟨by omega, Or.inr (Or.inr ⟨?_, ?_, ez, z, ?_, hy.symm⟩)⟩⟩
    · rw [← hzc]
      exact fun q => (dd.mpr q) c1
    · rw [← hzc]
      exact fun q => (dl.mpr q) c2
    · rw [← hzc]
      exact hz
  · intro b c1 c2
    refine ⟨by omega, fun h1 g1 g2 g3 => ?_⟩
    obtain ⟨s1, s2⟩ := ty_step hH g1 g2 g3
    refine ty222 hC hS0 hO k0 hb t1 e0 e1 (hl c2) oc ol od 200 (ze - 1) h1 (by omega) (by omega) (by omega) s1 (fun _ => by rw [s2, z64]) (fun _ => ?_)
    rw [s2, z64, show ze - 1 - (ze - 1) = 0 by omega]
    rfl
  · intro b c1
    refine ⟨by omega, fun h1 g1 g2 g3 => ?_⟩
    obtain ⟨s1, s2⟩ := ty_step hH g1 g2 g3
    refine ty135 hC hS0 k0 hb t1 e0 e1 (hd c1) oc ol od 200 zk h1 (by omega) (by omega) (by omega) s1 (fun _ => ⟨rfl, by rw [s2, z64]⟩) (fun _ => ?_)
    rw [s2, z64, show zk - zk = 0 by omega]
    rfl
theorem ty61 {zc zl zd : Int} {q6 q7 : Option mi_V} {h : sm_H} (hC : ty_C d h0 hh a zk Q) (hS0 : ab_Sh sx_sk h0) (hO : tq_O h0) (k0 : 0 ≤ zk) (hb : tx_end tx_blk (mi_f h0 13954) (mi_a h0 111) a zk) (t1 : mi_f hh 14011 ≤ zk) (hzc : zc = mi_a h0 111 zk.toNat) (c0 : 0 ≤ zc) (dl : zl ≠ 0 ↔ tx_low zc) (dd : zd ≠ 0 ↔ tx_dig zc) (oc : mi_in zc) (ol : mi_in zl) (od : mi_in zd) (o6 : ∀ v, q6 = some v → mi_ok v) (o7 : ∀ v, q7 = some v → mi_ok v) (hH : ty_H h0 hh h) : ∀ (N : Nat) (ze : Int), mi_f h0 13954 - ze < N → zk < ze → ze ≤ mi_f h0 13954 → (zl ≠ 0 → ∀ j, zk ≤ j → j < ze → j < mi_f h0 13954 ∧ tx_low (mi_a h0 111 j.toNat)) → (zd ≠ 0 → ∀ j, zk ≤ j → j < ze → j < mi_f h0 13954 ∧ tx_dig (mi_a h0 111 j.toNat)) → (zl = 0 → zd = 0 → ze = zk + 1) → me_E (d + 1) 229 61 [some (.inr (.inr 109)), some (.inl zk), some (.inl zc), some (.inl zl), some (.inl zd), some (.inl ze), q6, q7] [] h Q := by
  have e2 := (me_fb (c := 13954) hS0 rfl).2
  have hS := hH.1
  have e13 : mi_f h 13954 = mi_f h0 13954 := me_f (c := 13954) hH.2.1 hS0 rfl rfl
  have ex : zl ≠ 0 → zd ≠ 0 → False := fun q1 q2 => by
    have a1 := dl.mp q1
    have a2 := dd.mp q2
    unfold tx_low at a1
    unfold tx_dig at a2
    omega
  intro N
  induction N with
  | zero => intro ze hN _ _; exfalso; omega
  | succ N ih =>
    intro ze hN e0 e1 hl hd hn
    have ea : mi_a h 111 ze.toNat = mi_a h0 111 ze.toNat := me_a (k := 111) hH.2.1 hS0 rfl rfl
    have ok : mi_in zk := ⟨by omega, by omega⟩
    have oe : mi_in ze := ⟨by omega, by omega⟩
    have end_ : ¬ (ze < mi_f h0 13954 ∧ zl ≠ 0 ∧ tx_low (mi_a h0 111 ze.toNat)) → ¬ (ze < mi_f h0 13954 ∧ zd ≠ 0 ∧ tx_dig (mi_a h0 111 ze.toNat)) → me_E (d + 1) 229 111 [some (.inr (.inr 109)), some (.inl zk), some (.inl zc), some (.inl zl), some (.inl zd), some (.inl ze), q6, q7] [] h Q := fun n1 n2 => ty111 (d := d) (q6 := q6) (q7 := q7) hC hS0 hO k0 hb t1 e0 e1 hzc c0 dl dd (fun q => ⟨by omega, hl q, fun x => n1 ⟨x.1, q, x.2⟩⟩) (fun q => ⟨by omega, hd q, fun x => n2 ⟨x.1, q, x.2⟩⟩) hn oc ol od o6 o7 hH
    have more : (zl ≠ 0 → ze < mi_f h0 13954 ∧ tx_low (mi_a h0 111 ze.toNat)) → (zd ≠ 0 → ze < mi_f h0 13954 ∧ tx_dig (mi_a h0 111 ze.toNat)) → (zl ≠ 0 ∨ zd ≠ 0) → ze < mi_f h0 13954 → me_E (d + 1) 229 61 [some (.inr (.inr 109)), some (.inl zk), some (.inl zc), some (.inl zl), some (.inl zd), some (.inl (ze + 1)), q6, q7] [] h Q := fun n1 n2 n3 n4 => by
      refine ih (ze + 1) (by omega) (by omega) (by omega) (fun q j j0 j1 => ?_) (fun q j j0 j1 => ?_) (fun q1 q2 => by omega)
      · by_cases ej : j = ze
        · subst ej
          exact n1 q
        · exact hl q j j0 (by omega)
      · by_cases ej : j = ze
        · subst ej
          exact n2 q
        · exact hd q j j0 (by omega)
    have go102 : ∀ zz, ze < mi_f h0 13954 → zd ≠ 0 → (zz ≠ 0 ↔ tx_dig (mi_a h0 111 ze.toNat)) → mi_in zz → me_E (d + 1) 229 102 [some (.inr (.inr 109)), some (.inl zk), some (.inl zc), some (.inl zl), some (.inl zd), some (.inl ze), q6, q7] [.inl zz] h Q := fun zz hlt zd0 hz oz => by
      refine mt_tk7 hS ok oc ol od oe oz o6 o7 ?_ ?_
      · intro c h1 g1 g2
        have e3 := me_nil g2
        subst e3
        exact end_ (fun x => ex x.2.1 zd0) (fun x => (hz.mpr x.2.2) c)
      · intro c
        refine ⟨by omega, fun h1 g1 g2 => ?_⟩
        have e3 := me_nil g2
        subst e3
        exact more (fun q => absurd zd0 (fun q2 => ex q q2)) (fun _ => ⟨hlt, hz.mp c⟩) (Or.inr zd0) hlt
    refine mt_tk5 hS ok oc ol od oe o6 o7 ?_ ?_ ?_ ?_
    · intro b c1 h1 g1 g2
      have e3 := me_nil g2
      subst e3
      exact end_ (fun x => by have := x.1; omega) (fun x => by have := x.1; omega)
    · intro b c1 c2 c3 h1 g1 g2
      have e3 := me_nil g2
      subst e3
      exact end_ (fun x => x.2.1 c2) (fun x => x.2.1 c3)
    · intro b c1 c2 c3
      refine ⟨by omega, fun h1 g1 g2 => ?_⟩
      have e3 := me_nil g2
      subst e3
      refine ⟨_, me_dix g1 (mi_inT _), fun w h2 ow hq => ?_⟩
      obtain ⟨rfl, z, rfl, oz, hz⟩ := hq
      exact go102 z (by omega) c3 (by rw [← ea]; exact hz) oz
    · intro b c1 c2
      refine ⟨by omega, fun h1 g1 g2 => ?_⟩
      have e3 := me_nil g2
      subst e3
      refine ⟨_, me_lox g1 (mi_inT _), fun w h2 ow hq => ?_⟩
      obtain ⟨rfl, z, rfl, oz, hz⟩ := hq
      have hy : z ≠ 0 ↔ tx_low (mi_a h0 111 ze.toNat) := by rw [← ea]; exact hz
      refine mt_tk6 g1 ok oc ol od oe oz o6 o7 ?_ ?_ ?_
      · intro c3
        refine ⟨by omega, fun h3 r1 r2 => ?_⟩
        have e3 := me_nil r2
        subst e3
        exact more (fun _ => ⟨by omega, hy.mp c3⟩) (fun q => absurd q (fun q2 => ex c2 q2)) (Or.inl c2) (by omega)
      · intro c3 c4 h3 r1 r2
        have e3 := me_nil r2
        subst e3
        exact end_ (fun x => (hy.mpr x.2.2) c3) (fun x => x.2.1 c4)
      · intro c3 c4
        exact absurd c4 (fun q2 => ex c2 q2)
end TQN
def ty_I (h0 h : sm_H) (zk : Int) : Prop := px_V h ∧ 0 ≤ mi_f h 14011 ∧ mi_f h 14011 ≤ zk ∧ ∃ p : Int → Int, p 0 = 0 ∧ (∀ j, 0 ≤ j → j < mi_f h 14011 → 0 ≤ p j ∧ p j ≤ mi_f h0 13954 ∧ ∃ s, tq_T0 h0 (p j) (mi_a h 152 j.toNat) (mx_b h 154 j.toNat).toInt s (p (j + 1))) ∧ 0 ≤ p (mi_f h 14011) ∧ p (mi_f h 14011) ≤ zk ∧ ∀ j, p (mi_f h 14011) ≤ j → j < zk → j < mi_f h0 13954 ∧ tx_blk (mi_a h0 111 j.toNat)
def tq_R (h0 : sm_H) (w : Option mi_V) (h' : sm_H) : Prop := w = none ∧ ab_Sh sx_sk h' ∧ ab_Fr tk_W h0 h' ∧ mi_a h' 152 (mi_f h' 14011).toNat = 0 ∧ px_V h' ∧ ∃ p, tq_S (mi_f h0 13954) (mi_a h0 111) (mi_f h0 13962) (tq_L h0) (px_E h').1 (px_E h').2.1 p (mi_f h' 14011)
theorem me_tokx {d : Nat} {h0 : sm_H} (hS0 : ab_Sh sx_sk h0) (hO : tq_O h0) (hc0 : ∀ i : Nat, (i : Int) < mi_f h0 13954 → 0 ≤ mi_a h0 111 i) : me_E (d + 1) 229 0 [some (.inr (.inr 109)), none, none, none, none, none, none, none] [] h0 (tq_R h0) := by
  have e2 := (me_fb (c := 13954) hS0 rfl).2
  have main : ∀ (N : Nat) (zk : Int) (q2 q3 q4 q5 q6 q7 : Option mi_V) (h : sm_H), mi_f h0 13954 - zk < N → 0 ≤ zk → zk ≤ mi_f h0 13954 → (∀ v, q2 = some v → mi_ok v) → (∀ v, q3 = some v → mi_ok v) → (∀ v, q4 = some v → mi_ok v) → (∀ v, q5 = some v → mi_ok v) → (∀ v, q6 = some v → mi_ok v) → (∀ v, q7 = some v → mi_ok v) → ab_Sh sx_sk h → ab_Fr tk_W h0 h → ty_I h0 h zk → me_E (d + 1) 229 7 [some (.inr (.inr 109)), some (.inl zk), q2, q3, q4, q5, q6, q7] [] h (tq_R h0) := by
    intro N
    induction N with
    | zero => intro zk q2 q3 q4 q5 q6 q7 h hN _ _; exfalso; omega
    | succ N ih =>
      intro zk q2 q3 q4 q5 q6 q7 h hN k0 k1 o2 o3 o4 o5 o6 o7 hS hF hI
      obtain ⟨hV, t0, t1, p, p0, p1, p2, p3, p4⟩ := hI
      have ok : mi_in zk := ⟨by omega, by omega⟩
      have e13 : mi_f h 13954 = mi_f h0 13954 := me_f (c := 13954) hF hS0 rfl rfl
      have ea : mi_a h 111 zk.toNat = mi_a h0 111 zk.toNat := me_a (k := 111) hF hS0 rfl rfl
      refine mt_tk1 hS ok o2 o3 o4 o5 o6 o7 ?_ ?_
      · intro b1 b2 c
        refine ⟨by omega, fun h1 g1 g2 g3 g4 => ?_⟩
        have f11 : mi_f h1 14011 = mi_f h 14011 := me_f (c := 14011) g4 hS rfl rfl
        have eb : ∀ i, mx_b h1 154 i = mx_b h 154 i := fun i => me_b (k := 154) g4 hS rfl rfl
        have ek : mi_a h1 152 (mi_f h1 14011).toNat = 0 := by rw [f11, g2, if_pos rfl]
        refine ⟨rfl, g1, hF.trans (g4.wide (fun c hc => ab_swr_ok (by decide) hc)), ek, fun i hi => ?_, fun j => if j ≤ mi_f h 14011 then p j else mi_f h0 13954, ?_, ?_, ek, by omega⟩
        · rw [eb]
          exact hV i (by omega)
        · show (if (0 : Int) ≤ mi_f h 14011 then p 0 else mi_f h0 13954) = 0
          rw [if_pos t0]
          exact p0
        · intro j j0 j1
          show 0 ≤ (if j ≤ mi_f h 14011 then p j else mi_f h0 13954) ∧ (if j ≤ mi_f h 14011 then p j else mi_f h0 13954) ≤ mi_f h0 13954 ∧ ∃ s, tq_T (mi_f h0 13954) (mi_a h0 111) (mi_f h0 13962) (tq_L h0) (if j ≤ mi_f h 14011 then p j else mi_f h0 13954) (mi_a h1 152 j.toNat) (mx_b h1 154 j.toNat).toInt s (if j + 1 ≤ mi_f h 14011 then p (j + 1) else mi_f h0 13954)
          rw [if_pos (by omega), eb]
          by_cases ej : j = mi_f h 14011
          · subst ej
            refine ⟨p2, by omega, mi_f h0 13954, ⟨by omega, fun i i0 i1 => p4 i i0 (by omega), fun x => by have := x.1; omega⟩, Or.inl ⟨by omega, ?_, by rw [if_neg (by omega)]⟩⟩
            rw [← f11]
            exact ek
          · rw [if_pos (by omega), g2, if_neg (by omega)]
            exact p1 j j0 (by omega)
      · intro b c
        refine ⟨by omega, fun h1 g1 g2 => ?_⟩
        have e3 := me_nil g2
        subst e3
        refine ⟨_, me_blx g1 (mi_inT _), fun w h2 ow hq => ?_⟩
        obtain ⟨rfl, z, rfl, oz, hz⟩ := hq
        have oc := mi_inT (mx_a h2 111 (Int.toNat zk))
        have hy : z ≠ 0 ↔ tx_blk (mi_a h0 111 zk.toNat) := by rw [← ea]; exact hz
        refine mt_tk2 g1 ok oc oz o3 o4 o5 o6 o7 ?_ ?_
        · intro b2 c2
          have hb : tx_end tx_blk (mi_f h0 13954) (mi_a h0 111) (p (mi_f h2 14011)) zk := ⟨p3, p4, fun x => (hy.mpr x.2) c2⟩
          refine ⟨by omega, fun h3 r1 r2 r3 => ⟨_, me_lox r1 oc, fun w h4 ow hq => ?_⟩⟩
          obtain ⟨rfl, z2, rfl, oz2, hz2⟩ := hq
          refine mt_tk3 r1 ok oc oz2 o3 o4 o5 o6 o7 ?_
          intro h5 s1 s2
          have e3 := me_nil s2
          subst e3
          refine ⟨_, me_dix s1 oc, fun w h6 ow hq => ?_⟩
          obtain ⟨rfl, z3, rfl, oz3, hz3⟩ := hq
          refine mt_tk4 s1 ok oc oz2 oz3 o4 o5 o6 o7 ?_
          refine ⟨by omega, fun h7 u1 u2 => ?_⟩
          have e3 := me_nil u2
          subst e3
          have hF3 := hF.trans (r3.wide (wr' := tk_W) (fun c hc => ab_swr_ok (by decide) hc))
          have hH : ty_H h0 h2 h7 := ⟨u1, hF3, me_f (c := 14011) r3 g1 rfl rfl, fun i => me_a (k := 152) r3 g1 rfl rfl, fun i _ => me_b (k := 154) r3 g1 rfl rfl⟩
          have hzc : mi_a h2 111 zk.toNat = mi_a h0 111 zk.toNat := ea
          refine ty61 (hh := h2) (a := p (mi_f h2 14011)) ?_ hS0 hO k0 hb t1 hzc (by rw [hzc]; exact hc0 _ (by omega)) hz2 hz3 oc oz2 oz3 o6 o7 hH 200 (zk + 1) (by omega) (by omega) (by omega) (fun q j j0 j1 => ?_) (fun q j j0 j1 => ?_) (fun _ _ => rfl)
          · intro ze y2 y3 y4 y5 y6 y7 h8 x1 x2 v2 v3 v4 v5 v6 v7 x3 x4 x5 x6 x7 x8 x9 x10
            refine ih ze y2 y3 y4 y5 y6 y7 h8 (by omega) (by omega) x2 v2 v3 v4 v5 v6 v7 x3 x4 ⟨fun i hi => ?_, by omega, by omega, fun j => if j ≤ mi_f h2 14011 then p j else ze, ?_, fun j j0 j1 => ?_, ?_, ?_, ?_⟩
            · by_cases ei : i = (mi_f h2 14011).toNat
              · rw [ei]
                exact ⟨x8, x9⟩
              · rw [x7 i ei]
                exact hV i (by omega)
            · show (if (0 : Int) ≤ mi_f h2 14011 then p 0 else ze) = 0
              rw [if_pos t0]
              exact p0
            · show 0 ≤ (if j ≤ mi_f h2 14011 then p j else ze) ∧ (if j ≤ mi_f h2 14011 then p j else ze) ≤ mi_f h0 13954 ∧ ∃ s, tq_T0 h0 (if j ≤ mi_f h2 14011 then p j else ze) (mi_a h8 152 j.toNat) (mx_b h8 154 j.toNat).toInt s (if j + 1 ≤ mi_f h2 14011 then p (j + 1) else ze)
              rw [if_pos (by omega)]
              by_cases ej : j = mi_f h2 14011
              · subst ej
                rw [if_neg (by omega)]
                exact ⟨p2, by omega, zk, x10⟩
              · rw [if_pos (by omega), x6 _ (by omega), x7 _ (by omega)]
                exact p1 j j0 (by omega)
            · show 0 ≤ (if mi_f h8 14011 ≤ mi_f h2 14011 then p (mi_f h8 14011) else ze)
              rw [if_neg (by omega)]
              omega
            · show (if mi_f h8 14011 ≤ mi_f h2 14011 then p (mi_f h8 14011) else ze) ≤ ze
              rw [if_neg (by omega)]
              omega
            · show ∀ j, (if mi_f h8 14011 ≤ mi_f h2 14011 then p (mi_f h8 14011) else ze) ≤ j → j < ze → _
              rw [if_neg (by omega)]
              intro j j0 j1
              omega
          · have ej : j = zk := by omega
            subst ej
            rw [← hzc]
            exact ⟨by omega, hz2.mp q⟩
          · have ej : j = zk := by omega
            subst ej
            rw [← hzc]
            exact ⟨by omega, hz3.mp q⟩
        · intro c2
          refine ⟨by omega, fun h3 r1 r2 => ?_⟩
          have e3 := me_nil r2
          subst e3
          refine ih (zk + 1) _ _ _ _ _ _ _ (by omega) (by omega) (by omega) (me_oi oc) o3 o4 o5 o6 o7 hS hF ⟨hV, t0, by omega, p, p0, p1, p2, by omega, fun j j0 j1 => ?_⟩
          by_cases ej : j = zk
          · subst ej
            exact ⟨by omega, hy.mp c2⟩
          · exact p4 j j0 (by omega)
  refine mt_tk0 hS0 ?_
  intro h1 g1 g2 g3
  exact main 200 0 _ _ _ _ _ _ h1 (by omega) (by decide) (me_fb (c := 13954) hS0 rfl).1 me_on me_on me_on me_on me_on me_on g1 (g3.wide (fun c hc => ab_swr_ok (by decide) hc)) ⟨fun i hi => by omega, by omega, by omega, fun _ => 0, rfl, fun j j0 j1 => by omega, Int.le_refl _, Int.le_refl _, fun j (j0 : 0 ≤ j) j1 => by omega⟩
/-! parse of the reference, exactly -/
theorem pm_st_g {g g' : wk_g} {E : pm_E} {l : Int} (hg : wk_gc g g') : pm_st g' E l = pm_st g E l := by
  funext e r s
  unfold pm_st
  rw [pm_u_g hg, pm_fo_g hg, pm_ag_g hg]
theorem pc_0_e {g : wk_g} {X : Int64} : pc_0 g X = some ([(1, g 114 0, 0), (2, 1, 0)], (X, 0, [(1, 0, 0)], 1, [])) := by
  unfold pc_0 pm_en gm_c
  rw [if_neg (show ¬ (12 : Int) ≤ 0 + wk_ul [] by decide), gm_X_mk, gm_F_mk, gm_T_mk, gm_D_mk, gm_P_mk, if_neg (show ¬ 100 ≤ ([] : List (Int × Int × Int)).length by decide)]
  rfl
theorem pw_u {st : wk_E → List wk_E → gm_S → Option gm_C} {a : gm_C} {s s' : gm_S} {n m : Nat} (h1 : pw_to st n a ([], s)) (h2 : pw_to st m a ([], s')) : s' = s := by
  by_cases c : n ≤ m
  · have := (pw_end _ (pw_det _ _ _ h1 h2 c)).2
    exact (Prod.mk.inj this).2
  · have := (pw_end _ (pw_det _ _ _ h2 h1 (by omega))).2
    exact (Prod.mk.inj this).2.symm
theorem pw_stuck {st : wk_E → List wk_E → gm_S → Option gm_C} {a : gm_C} {e : wk_E} {r : List wk_E} {s s' : gm_S} {n m : Nat} (h1 : pw_to st n a (e :: r, s)) (hn : st e r s = none) (h2 : pw_to st m a ([], s')) : False := by
  by_cases c : n ≤ m
  · have := pw_det _ _ _ h1 h2 c
    cases hk : m - n with
    | zero =>
      rw [hk] at this
      exact pw_0 this
    | succ k =>
      rw [hk] at this
      obtain ⟨c1, x, -⟩ := pw_cons this
      rw [hn] at x
      cases x
  · have := (pw_end _ (pw_det _ _ _ h2 h1 (by omega))).2
    cases this
def pr_G (h : sm_H) : Prop := ∃ Y pf pa, wk_L (mi_a h) Y ∧ wk_Lrule Y (mi_a h 114 0) ∧ pm_x Y ∧ pm_Hs (mi_a h) Y (px_E h) pf pa ∧ (∀ u, 0 ≤ u → u < wk_u Y → px_W h u) ∧ tq_O h ∧ ∀ i : Nat, (i : Int) < mi_f h 13954 → 0 ≤ mi_a h 111 i
def pr_N : List (Nat × Nat) := [(13952, 13953), (14011, 14012), (14016, 14017), (14028, 14038), (14044, 14048), (18560, 18561), (19456, 19457), (19584, 19585), (19712, 19713), (20224, 20481), (20864, 20865), (21120, 21761)]
def pr_Y : List (Nat × Nat) := pr_N ++ ta_W
/-- what parse does: nothing to the tree, or the tree that the walk over the tokens makes -/
def pr_X (h : sm_H) (w : Option mi_V) (h' : sm_H) : Prop := (mi_f h 13959 < 2 → ab_Fr pr_N h h') ∧ (2 ≤ mi_f h 13959 → ∃ (E : pm_E) (p : Int → Int) (N : Int), E.2.2 = (px_E h).2.2 ∧ N ≤ 160 ∧ tq_S (mi_f h 13954) (mi_a h 111) (mi_f h 13962) (tq_L h) E.1 E.2.1 p N ∧ ((pm_NO (mi_a h) E (pc_0 (mi_a h) 0) ∧ ab_Fr pr_N h h') ∨ (ab_Fr pr_Y h h' ∧ ∃ s', pm_RO (mi_a h) E (pc_0 (mi_a h) 0) ([], s') ∧ pm_K E s' = 0 ∧ w = some (.inl ((gm_T s').length : Int)) ∧ (gm_T s').length ≤ 100 ∧ gs_T h' (gm_T s'))))
section PRX
variable {d : Nat} {h : sm_H}
theorem pm_Hs_E {g : wk_g} {Y : wk_Y} {E E' : pm_E} {pf pa : Int → Int → Bool} (e : E'.2.2 = E.2.2) (h : pm_Hs g Y E pf pa) : pm_Hs g Y E' pf pa := by
  unfold pm_Hs at h ⊢
  rw [e]
  exact h
theorem me_parsex (hS : ab_Sh sx_sk h) (hG : 2 ≤ mi_f h 13959 → pr_G h) : me_E (d + 20) 228 0 [some (.inr (.inr 109))] [] h (pr_X h) := by
  refine mt_paA hS ?_ ?_
  · intro b c h1 g1 g2 g3
    obtain ⟨Y, pf, pa, l1, l2, l3, l4, l5, l6, l7⟩ := hG c
    have f54 : mi_f h1 13954 = mi_f h 13954 := me_f (c := 13954) g3 hS rfl rfl
    have f62 : mi_f h1 13962 = mi_f h 13962 := me_f (c := 13962) g3 hS rfl rfl
    have f111 : ∀ i, mi_a h1 111 i = mi_a h 111 i := fun i => me_a (k := 111) g3 hS rfl rfl
    have fL : ∀ i, tq_L h1 i = tq_L h i := fun i => by
      unfold tq_L
      rw [me_b (k := 118) g3 hS rfl rfl, me_a (k := 117) g3 hS rfl rfl]
    have hO1 : tq_O h1 := fun k hk => by
      rw [me_b (k := 118) g3 hS rfl rfl, me_a (k := 117) g3 hS rfl rfl]
      exact l6 k (by omega)
    refine ⟨_, me_tokx (d := d + 18) g1 hO1 (fun i hi => by rw [f111]; exact l7 i (by omega)), fun w h2 ow hq => ?_⟩
    obtain ⟨rfl, q1, q2, q3, qV, p, qS⟩ := hq
    rw [f54, f62, show mi_a h1 111 = mi_a h 111 from funext f111, show tq_L h1 = tq_L h from funext fL] at qS
    have F2 : ab_Fr pr_N h h2 := (g3.wide (fun c hc => ab_swr_ok (by decide) hc)).trans (q2.wide (fun c hc => ab_swr_ok (by decide) hc))
    have F2' : ab_Fr [(13952, 13953), (14011, 14012), (19456, 19457), (19584, 19585), (19712, 19713)] h h2 := (g3.wide (fun c hc => ab_swr_ok (by decide) hc)).trans (q2.wide (fun c hc => ab_swr_ok (by decide) hc))
    have hg : wk_gc (mi_a h) (mi_a h2) := wk_gc_fr F2' hS rfl
    have e14 : mi_a h2 114 0 = mi_a h 114 0 := hg 114 (by decide) 0
    have eE : (px_E h2).2.2 = (px_E h).2.2 := by
      have e3 : ∀ i, mx_b h2 134 i = mx_b h 134 i := fun i => me_b (k := 134) F2' hS rfl rfl
      have e4 : ∀ i, mx_b h2 135 i = mx_b h 135 i := fun i => me_b (k := 135) F2' hS rfl rfl
      have e5 : ∀ i, mi_a h2 132 i = mi_a h 132 i := fun i => me_a (k := 132) F2' hS rfl rfl
      have e6 : ∀ i, mx_b h2 138 i = mx_b h 138 i := fun i => me_b (k := 138) F2' hS rfl rfl
      unfold px_E
      simp only [e3, e4, e5, e6]
    refine mt_paB q1 ?_
    intro h2' p1 p2
    have e2 := me_nil p2
    subst e2
    refine ⟨_, me_walkp (d := d + 12) (X := 0) q1 (wk_L_g l1 hg) l3 (by rw [e14]; exact l2) qV (fun u u0 u1 => px_W_g hg (l5 u u0 u1)) q3, fun w h3 ow hq => ?_⟩
    obtain ⟨rfl, q4, q5, q6⟩ := hq
    rw [e14] at q6
    unfold pl_NO pl_S at q6
    rw [pm_st_g hg] at q6
    have l4' : pm_Hs (mi_a h) Y (px_E h2') pf pa := pm_Hs_E eE l4
    have F3 : ab_Fr pr_N h h3 := F2.trans (q5.wide (fun c hc => ab_swr_ok (by decide) hc))
    have bN := me_fb (c := 14011) q1 rfl
    have trn : ∀ (zt : Int) (B : List wk_E) (s : gm_S), 0 ≤ zt → ((B = [] ∨ zt = 40000) ∧ pw_to (pm_st (mi_a h) (px_E h2') 0) zt.toNat ([(1, mi_a h 114 0, 0), (2, 1, 0)], (0, 0, [(1, 0, 0)], 1, [])) (B, s) ∧ gm_len s ≤ 100 ∧ gm_F s ≤ 160 ∧ 0 ≤ pm_pot Y B) → B = [] := by
      intro zt B s z0 ⟨y1, y2, y3, y4, y5⟩
      rcases y1 with y1 | y1
      · exact y1
      · exfalso
        have := pm_turns l1 l3 l4' l2 (show gm_len ((0, 0, [(1, 0, 0)], 1, []) : gm_S) = 1 ∧ gm_F ((0, 0, [(1, 0, 0)], 1, []) : gm_S) = 0 from ⟨by unfold gm_len; rw [gm_T_mk]; rfl, gm_F_mk _ _ _ _ _⟩) y2 y3 y4 y5
        omega
    have bad : (mi_f h3 14044 = 1 ∨ 0 ≤ mi_f h3 14034) → pm_NO (mi_a h) (px_E h2') (pc_0 (mi_a h) 0) := by
      intro hb c1 hc1
      rw [pc_0_e] at hc1
      injection hc1 with hc1
      subst hc1
      intro n s' hto
      rcases q6 with ⟨-, ⟨n1, e, r, s, x1, x2⟩ | ⟨zt, B, s, z0, z1, x1, x2⟩⟩ | ⟨x1, x2, -⟩
      · exact absurd hto (fun q => pw_stuck x1 x2 q)
      · have eB := trn zt B s z0 x1
        subst eB
        rw [pw_u x1.2.1 hto]
        exact x2
      · exfalso; omega
    refine mt_paC q4 ?_ ?_ ?_
    · intro b1 b2 c1 c2 h4 r1 r2 r3
      refine ⟨_, me_takex (d := d + 19) r1, fun w h5 ow hq => ?_⟩
      obtain ⟨rfl, t0, t1, t2, t3⟩ := hq
      refine mt_paD t0 (ow _ rfl) ?_
      intro h6 u1 u2
      have e6 := me_nil u2
      subst e6
      refine ⟨fun q => by omega, fun _ => ⟨px_E h2', p, mi_f h2' 14011, eE, bN.2, qS, Or.inr ?_⟩⟩
      rcases q6 with ⟨x1, -⟩ | ⟨x1, x2, zt, s, z0, z1, y1, hR, y3⟩
      · exfalso; omega
      have eB := trn zt _ s z0 y1
      have e16 : mi_f h4 14016 = mi_f h3 14016 := me_f (c := 14016) r3 q4 rfl rfl
      have yto := y1.2.1
      rw [eB] at yto
      have yl : ((gm_T s).length : Int) ≤ 100 := y1.2.2.1
      refine ⟨((F3.wide (fun c hc => ab_swr_ok (by decide) hc)).trans (r3.wide (fun c hc => ab_swr_ok (by decide) hc))).trans (t1.wide (fun c hc => ab_swr_ok (by decide) hc)), s, ⟨_, zt.toNat, pc_0_e, yto⟩, y3, by rw [e16, hR.1.1], by omega, gs_T_of (gx_T_fr hR.1 r3 q4 rfl) t2 t3⟩
    · intro b1 b2 c1 c2
      refine ⟨by omega, fun h4 r1 r2 r3 => ?_⟩
      exact ⟨fun q => by omega, fun _ => ⟨px_E h2', p, mi_f h2' 14011, eE, bN.2, qS, Or.inl ⟨bad (Or.inr c2), F3.trans (r3.wide (fun c hc => ab_swr_ok (by decide) hc))⟩⟩⟩
    · intro b1 c1 h4 r1 r2 r3
      exact ⟨fun q => by omega, fun _ => ⟨px_E h2', p, mi_f h2' 14011, eE, bN.2, qS, Or.inl ⟨bad (Or.inl (by omega)), F3.trans (r3.wide (fun c hc => ab_swr_ok (by decide) hc))⟩⟩⟩
  · intro b c h1 g1 g2 g3
    exact ⟨fun _ => g3.wide (fun c hc => ab_swr_ok (by decide) hc), fun q => by omega⟩
end PRX
/-! THE REPLAY: the walk that goes by the values V of the nodes, in the order in which they are made; it builds the tree again, and its leaves are told -/
def dm_lf (V : Int → Int) (o : Int) (s : gm_S) : Option gm_S := if o = 1 then gm_c 2 (V (gm_len s)) s else if o = 2 then gm_c 3 (V (gm_len s)) s else some s
def dm_sg (l : Int) (g : wk_g) (V : Int → Int) (u : Int) (r : List wk_E) (s : gm_S) : Option gm_C :=
  if g 119 u.toNat = 9 then pm_en l g (g 115 (g 120 u.toNat).toNat) r s
  else if g 119 u.toNat = 10 then some ((1, g 120 u.toNat, 0) :: r, s)
  else (dm_lf V (g 119 u.toNat) s).map (fun t => (r, t))
def dm_u (l : Int) (g : wk_g) (V : Int → Int) (u : Int) (r : List wk_E) (s : gm_S) : Option gm_C :=
  if g 122 u.toNat = 1 then (gm_c 5 (V (gm_len s)) s).map (fun t => ((5, u, V (gm_len s)) :: (2, 0, 0) :: r, gm_d t))
  else if g 122 u.toNat = 2 then (gm_c 6 (V (gm_len s)) s).bind (fun t => if 0 < V (gm_len s) then dm_sg l g V u ((2, 0, 0) :: r) (gm_d t) else some ((2, 0, 0) :: r, gm_d t))
  else dm_sg l g V u r s
def dm_fo (g : wk_g) (V : Int → Int) (f : Int) (r : List wk_E) (s : gm_S) : Option gm_C :=
  if 1 < g 130 f.toNat then (if 0 ≤ V (gm_len s) ∧ V (gm_len s) < g 130 f.toNat then (gm_c 4 (V (gm_len s)) s).map (fun t => (wk_it g 61 (g 126 (wk_alt g (V (gm_len s)).toNat (g 129 f.toNat)).toNat) ++ (2, 0, 0) :: r, gm_d t)) else none)
  else some (wk_it g 61 (g 126 (g 129 f.toNat).toNat) ++ r, s)
def dm_ag (l : Int) (g : wk_g) (V : Int → Int) (u a : Int) (r : List wk_E) (s : gm_S) : Option gm_C := if 0 < a then dm_sg l g V u ((5, u, a - 1) :: r) s else some (r, s)
def dm_st (g : wk_g) (V : Int → Int) (l : Int) (e : wk_E) (r : List wk_E) (s : gm_S) : Option gm_C :=
  if e.1 = 0 then dm_u l g V e.2.1 r (gm_op e.2.2 s)
  else if e.1 = 1 then dm_fo g V e.2.1 r s
  else if e.1 = 5 then dm_ag l g V e.2.1 e.2.2 r s
  else if e.1 = 2 then some (r, (gm_X s, gm_F s, gm_T s, gm_D s - 1, gm_P s))
  else if e.1 = 3 then some (r, gm_mid s)
  else some (r, gm_tu s)
/-- the leaves of a turn: the unit, and the value of its node -/
def dv_lf (g : wk_g) (V : Int → Int) (u c : Int) : List (Int × Int) := if g 119 u.toNat = 9 ∨ g 119 u.toNat = 10 then [] else [(u, V c)]
def dv (g : wk_g) (V : Int → Int) (e : wk_E) (s : gm_S) : List (Int × Int) :=
  if e.1 = 0 then (if g 122 e.2.1.toNat = 1 then [] else if g 122 e.2.1.toNat = 2 then (if 0 < V (gm_len s) then dv_lf g V e.2.1 (gm_len s + 1) else []) else dv_lf g V e.2.1 (gm_len s))
  else if e.1 = 5 then (if 0 < e.2.2 then dv_lf g V e.2.1 (gm_len s) else [])
  else []
section DM0
variable {g : wk_g} {V : Int → Int} {l : Int} {r q : List wk_E} {s : gm_S}
theorem dm_st_0 {u o : Int} : dm_st g V l (0, u, o) r s = dm_u l g V u r (gm_op o s) := by
  unfold dm_st
  rw [if_pos rfl]
theorem dm_st_1 {f a : Int} : dm_st g V l (1, f, a) r s = dm_fo g V f r s := by
  unfold dm_st
  rw [if_neg (show ¬ (1 : Int) = 0 by decide), if_pos rfl]
theorem dm_st_5 {u a : Int} : dm_st g V l (5, u, a) r s = dm_ag l g V u a r s := by
  unfold dm_st
  rw [if_neg (show ¬ (5 : Int) = 0 by decide), if_neg (show ¬ (5 : Int) = 1 by decide), if_pos rfl]
theorem dm_st_2 {u a : Int} : dm_st g V l (2, u, a) r s = some (r, (gm_X s, gm_F s, gm_T s, gm_D s - 1, gm_P s)) := by
  unfold dm_st
  rw [if_neg (show ¬ (2 : Int) = 0 by decide), if_neg (show ¬ (2 : Int) = 1 by decide), if_neg (show ¬ (2 : Int) = 5 by decide), if_pos rfl]
theorem dm_st_3 {u a : Int} : dm_st g V l (3, u, a) r s = some (r, gm_mid s) := by
  unfold dm_st
  rw [if_neg (show ¬ (3 : Int) = 0 by decide), if_neg (show ¬ (3 : Int) = 1 by decide), if_neg (show ¬ (3 : Int) = 5 by decide), if_neg (show ¬ (3 : Int) = 2 by decide), if_pos rfl]
theorem dm_st_4 {u a : Int} : dm_st g V l (4, u, a) r s = some (r, gm_tu s) := by
  unfold dm_st
  rw [if_neg (show ¬ (4 : Int) = 0 by decide), if_neg (show ¬ (4 : Int) = 1 by decide), if_neg (show ¬ (4 : Int) = 5 by decide), if_neg (show ¬ (4 : Int) = 2 by decide), if_neg (show ¬ (4 : Int) = 3 by decide)]
theorem dm_sg_loc {u : Int} : dm_sg l g V u (r ++ q) s = (dm_sg (l + wk_ul q) g V u r s).map (fun c => (c.1 ++ q, c.2)) := by
  unfold dm_sg
  by_cases c9 : g 119 u.toNat = 9
  · rw [if_pos c9, if_pos c9]
    exact pm_en_loc
  · rw [if_neg c9, if_neg c9]
    by_cases c10 : g 119 u.toNat = 10
    · rw [if_pos c10, if_pos c10]
      rfl
    · rw [if_neg c10, if_neg c10]
      cases dm_lf V (g 119 u.toNat) s with
      | none => rfl
      | some t => rfl
theorem dm_u_loc {u : Int} : dm_u l g V u (r ++ q) s = (dm_u (l + wk_ul q) g V u r s).map (fun c => (c.1 ++ q, c.2)) := by
  unfold dm_u
  by_cases c1 : g 122 u.toNat = 1
  · rw [if_pos c1, if_pos c1]
    cases gm_c 5 (V (gm_len s)) s with
    | none => rfl
    | some t => rfl
  · rw [if_neg c1, if_neg c1]
    by_cases c2 : g 122 u.toNat = 2
    · rw [if_pos c2, if_pos c2]
      cases gm_c 6 (V (gm_len s)) s with
      | none => rfl
      | some t =>
        show (if 0 < V (gm_len s) then dm_sg l g V u ((2, 0, 0) :: (r ++ q)) (gm_d t) else some ((2, 0, 0) :: (r ++ q), gm_d t)) = Option.map _ (if 0 < V (gm_len s) then dm_sg (l + wk_ul q) g V u ((2, 0, 0) :: r) (gm_d t) else some ((2, 0, 0) :: r, gm_d t))
        by_cases ch : 0 < V (gm_len s)
        · rw [if_pos ch, if_pos ch]
          exact dm_sg_loc (r := (2, 0, 0) :: r)
        · rw [if_neg ch, if_neg ch]
          rfl
    · rw [if_neg c2, if_neg c2]
      exact dm_sg_loc
theorem dm_loc : pw_loc (dm_st g V) := by
  intro l e r q s
  unfold dm_st
  by_cases c0 : e.1 = 0
  · rw [if_pos c0, if_pos c0]
    exact dm_u_loc
  · rw [if_neg c0, if_neg c0]
    by_cases c1 : e.1 = 1
    · rw [if_pos c1, if_pos c1]
      unfold dm_fo
      by_cases c2 : 1 < g 130 e.2.1.toNat
      · rw [if_pos c2, if_pos c2]
        by_cases c3 : 0 ≤ V (gm_len s) ∧ V (gm_len s) < g 130 e.2.1.toNat
        · rw [if_pos c3, if_pos c3]
          cases gm_c 4 (V (gm_len s)) s with
          | none => rfl
          | some t =>
            dsimp only [Option.map]
            rw [List.append_assoc]
            rfl
        · rw [if_neg c3, if_neg c3]
          rfl
      · rw [if_neg c2, if_neg c2]
        dsimp only [Option.map]
        rw [List.append_assoc]
    · rw [if_neg c1, if_neg c1]
      by_cases c5 : e.1 = 5
      · rw [if_pos c5, if_pos c5]
        unfold dm_ag
        by_cases ch : 0 < e.2.2
        · rw [if_pos ch, if_pos ch]
          exact dm_sg_loc (r := (5, e.2.1, e.2.2 - 1) :: r)
        · rw [if_neg ch, if_neg ch]
          rfl
      · rw [if_neg c5, if_neg c5]
        by_cases c2 : e.1 = 2
        · rw [if_pos c2, if_pos c2]
          rfl
        · rw [if_neg c2, if_neg c2]
          by_cases c3 : e.1 = 3
          · rw [if_pos c3, if_pos c3]
            rfl
          · rw [if_neg c3, if_neg c3]
            rfl
end DM0
/-- runs that tell something at each turn -/
def pe_to (st : wk_E → List wk_E → gm_S → Option gm_C) (ev : wk_E → gm_S → List (Int × Int)) : Nat → gm_C → gm_C → List (Int × Int) → Prop
  | 0, c, d, L => c = d ∧ L = []
  | n + 1, c, d, L => ∃ e r c1 L1, c.1 = e :: r ∧ st e r c.2 = some c1 ∧ pe_to st ev n c1 d L1 ∧ L = ev e c.2 ++ L1
section PE0
variable {st : wk_E → List wk_E → gm_S → Option gm_C} {ev : wk_E → gm_S → List (Int × Int)}
theorem pe_pw {d : gm_C} : ∀ (n : Nat) (c : gm_C) (L : List (Int × Int)), pe_to st ev n c d L → pw_to st n c d := by
  intro n
  induction n with
  | zero => intro c L h; exact h.1
  | succ n ih =>
    intro c L h
    obtain ⟨e, r, c1, L1, h1, h2, h3, -⟩ := h
    exact ⟨e, r, c1, h1, h2, ih c1 L1 h3⟩
theorem pe_of {d : gm_C} : ∀ (n : Nat) (c : gm_C), pw_to st n c d → ∃ L, pe_to st ev n c d L := by
  intro n
  induction n with
  | zero => intro c h; exact ⟨[], h, rfl⟩
  | succ n ih =>
    intro c h
    obtain ⟨e, r, c1, h1, h2, h3⟩ := h
    obtain ⟨L, hL⟩ := ih c1 h3
    exact ⟨_, e, r, c1, L, h1, h2, hL, rfl⟩
theorem pe_cons {n : Nat} {e : wk_E} {r : List wk_E} {s : gm_S} {d : gm_C} {L : List (Int × Int)} (h : pe_to st ev (n + 1) (e :: r, s) d L) : ∃ c1 L1, st e r s = some c1 ∧ pe_to st ev n c1 d L1 ∧ L = ev e s ++ L1 := by
  obtain ⟨e', r', c1, L1, h1, h2, h3, h4⟩ := h
  injection h1 with h5 h6
  subst h5
  subst h6
  exact ⟨c1, L1, h2, h3, h4⟩
/-- what is told from the begin to the end is one thing -/
theorem pe_u {s s' : gm_S} : ∀ (n m : Nat) (a : gm_C) (L K : List (Int × Int)), pe_to st ev n a ([], s) L → pe_to st ev m a ([], s') K → n = m ∧ s = s' ∧ L = K := by
  intro n
  induction n with
  | zero =>
    intro m a L K h1 h2
    obtain ⟨h1, k1⟩ := h1
    subst h1
    cases m with
    | zero =>
      obtain ⟨h2, k2⟩ := h2
      exact ⟨rfl, (Prod.mk.inj h2).2, by rw [k1, k2]⟩
    | succ m =>
      obtain ⟨e, r, c1, L1, x, -⟩ := h2
      cases x
  | succ n ih =>
    intro m a L K h1 h2
    obtain ⟨e, r, c1, L1, x1, x2, x3, x4⟩ := h1
    cases m with
    | zero =>
      obtain ⟨h2, -⟩ := h2
      rw [h2] at x1
      cases x1
    | succ m =>
      obtain ⟨e', r', c1', L1', y1, y2, y3, y4⟩ := h2
      rw [x1] at y1
      injection y1 with y5 y6
      subst y5
      subst y6
      rw [x2] at y2
      injection y2 with y2
      subst y2
      obtain ⟨i1, i2, i3⟩ := ih m c1 L1 L1' x3 y3
      exact ⟨by omega, i2, by rw [x4, y4, i3]⟩
end PE0
section PE1
variable {st : Int → wk_E → List wk_E → gm_S → Option gm_C} {ev : wk_E → gm_S → List (Int × Int)}
theorem pe_split0 (hl : pw_loc st) {l : Int} {q : List wk_E} {s' : gm_S} : ∀ (n : Nat) (A : List wk_E) (s : gm_S) (L : List (Int × Int)), pe_to (st l) ev n (A ++ q, s) ([], s') L → ∃ n1 s1 L1 L2, n1 ≤ n ∧ pe_to (st (l + wk_ul q)) ev n1 (A, s) ([], s1) L1 ∧ pe_to (st l) ev (n - n1) (q, s1) ([], s') L2 ∧ L = L1 ++ L2 := by
  intro n
  induction n with
  | zero =>
    intro A s L h
    obtain ⟨h, k⟩ := h
    have hA : A ++ q = [] := (Prod.mk.inj h).1
    obtain ⟨a1, a2⟩ := List.append_eq_nil_iff.mp hA
    subst a1
    exact ⟨0, s, [], L, Nat.le_refl _, ⟨rfl, rfl⟩, ⟨h, k⟩, rfl⟩
  | succ n ih =>
    intro A s L h
    cases A with
    | nil => exact ⟨0, s, [], L, Nat.zero_le _, ⟨rfl, rfl⟩, h, rfl⟩
    | cons e r =>
      obtain ⟨c1, L1, h2, h3, h4⟩ := pe_cons (show pe_to (st l) ev (n + 1) (e :: (r ++ q), s) ([], s') L from h)
      rw [hl] at h2
      obtain ⟨c0, k1, k2⟩ := Option.map_eq_some_iff.mp h2
      subst k2
      obtain ⟨n1, s1, M1, M2, i1, i2, i3, i4⟩ := ih c0.1 c0.2 L1 h3
      refine ⟨n1 + 1, s1, ev e s ++ M1, M2, by omega, ⟨e, r, c0, M1, rfl, k1, i2, rfl⟩, ?_, by rw [h4, i4, List.append_assoc]⟩
      rwa [show n + 1 - (n1 + 1) = n - n1 from by omega]
end PE1
/-! a run that makes a tree is a replay of what it made -/
def vT (V : Int → Int) (T : List (Int × Int × Int)) : List (Int × Int × Int) := T.map (fun x => (x.1, V (x.1 / 10), x.2.2))
def vs (V : Int → Int) (s : gm_S) : gm_S := (0, 0, vT V (gm_T s), gm_D s, gm_P s)
/-- the values of T are V's -/
def vo (V : Int → Int) (s : gm_S) : Prop := ∀ x ∈ gm_T s, V (x.1 / 10) = x.2.1
section VS0
variable {V : Int → Int} {s t : gm_S} {T : List (Int × Int × Int)}
theorem vT_len : (vT V T).length = T.length := List.length_map _
theorem vT_id (h : ∀ x ∈ T, V (x.1 / 10) = x.2.1) : vT V T = T := by
  induction T with
  | nil => rfl
  | cons x T ih =>
    show (x.1, V (x.1 / 10), x.2.2) :: vT V T = x :: T
    rw [ih (fun y hy => h y (List.mem_cons_of_mem _ hy)), h x List.mem_cons_self]
theorem vT_app {A : List (Int × Int × Int)} : vT V (T ++ A) = vT V T ++ vT V A := List.map_append
theorem vT_one {k v D : Int} {n : Nat} (hk : 0 ≤ k ∧ k < 10) : vT V [(k + 10 * (n : Int), v, D)] = [(k + 10 * (n : Int), V (n : Int), D)] := by
  show [(k + 10 * (n : Int), V ((k + 10 * (n : Int)) / 10), D)] = _
  rw [show (k + 10 * (n : Int)) / 10 = (n : Int) by omega]
theorem vT_rot {a b : Nat} : gm_rot a b (vT V T) = vT V (gm_rot a b T) := by
  unfold gm_rot
  rw [vT_len]
  by_cases c : a ≤ b ∧ b ≤ T.length
  · rw [if_pos c, if_pos c, vT_app, vT_app]
    unfold vT
    rw [List.map_take, List.map_drop, List.map_drop, List.map_take]
  · rw [if_neg c, if_neg c]
theorem vs_e (e1 : gm_T t = gm_T s) (e2 : gm_D t = gm_D s) (e3 : gm_P t = gm_P s) : vs V t = vs V s := by
  unfold vs
  rw [e1, e2, e3]
theorem vs_T : gm_T (vs V s) = vT V (gm_T s) := gm_T_mk _ _ _ _ _
theorem vs_len : gm_len (vs V s) = gm_len s := by
  unfold gm_len
  rw [vs_T, vT_len]
theorem vs_d : gm_d (vs V s) = vs V (gm_d s) := by
  unfold gm_d vs
  simp only [gm_X_mk, gm_F_mk, gm_T_mk, gm_D_mk, gm_P_mk]
theorem vs_op {o : Int} : gm_op o (vs V s) = vs V (gm_op o s) := by
  unfold gm_op
  by_cases c : o = 1
  · rw [if_pos c, if_pos c]
    unfold vs
    simp only [gm_X_mk, gm_F_mk, gm_T_mk, gm_D_mk, gm_P_mk, vT_len]
  · rw [if_neg c, if_neg c]
theorem vs_mid : gm_mid (vs V s) = vs V (gm_mid s) := by
  unfold gm_mid vs
  simp only [gm_X_mk, gm_F_mk, gm_T_mk, gm_D_mk, gm_P_mk, vT_len]
theorem vs_tu : gm_tu (vs V s) = vs V (gm_tu s) := by
  unfold gm_tu
  rw [show gm_P (vs V s) = gm_P s from gm_P_mk _ _ _ _ _]
  cases gm_P s with
  | nil => rfl
  | cons p q =>
    unfold vs
    simp only [gm_X_mk, gm_F_mk, gm_T_mk, gm_D_mk, gm_P_mk, vT_rot]
theorem vs_2 : ((gm_X (vs V s), gm_F (vs V s), gm_T (vs V s), gm_D (vs V s) - 1, gm_P (vs V s)) : gm_S) = vs V (gm_X s, gm_F s, gm_T s, gm_D s - 1, gm_P s) := by
  unfold vs
  simp only [gm_X_mk, gm_F_mk, gm_T_mk, gm_D_mk, gm_P_mk]
/-- a node comes -/
theorem vs_c {k v : Int} (hk : 0 ≤ k ∧ k < 10) {s0 : gm_S} (h : gm_c k v s0 = some t) (e1 : gm_T s0 = gm_T s) (e2 : gm_D s0 = gm_D s) (e3 : gm_P s0 = gm_P s) : gm_c k (V (gm_len s)) (vs V s) = some (vs V t) := by
  obtain ⟨-, -, t1, t2, t3⟩ := gm_c_t h
  have l := (gm_c_len h).1
  unfold gm_c
  rw [vs_T, vT_len, if_neg (by rw [← e1]; omega)]
  refine congrArg some ?_
  unfold vs
  simp only [gm_X_mk, gm_F_mk, gm_T_mk, gm_D_mk, gm_P_mk]
  rw [t1, t2, t3, e1, e2, e3, vT_app, vT_one hk]
  rfl
theorem vo_c {k v : Int} (hk : 0 ≤ k ∧ k < 10) (h : gm_c k v s = some t) (hV : vo V t) : V (gm_len s) = v := by
  obtain ⟨-, -, t1, -, -⟩ := gm_c_t h
  have := hV (k + 10 * ((gm_T s).length : Int), v, gm_D s) (by rw [t1]; exact List.mem_append_right _ List.mem_cons_self)
  dsimp only at this
  rw [show (k + 10 * ((gm_T s).length : Int)) / 10 = ((gm_T s).length : Int) by omega] at this
  exact this
theorem mem_rot {a b : Nat} {x : Int × Int × Int} (h : x ∈ T) : x ∈ gm_rot a b T := by
  unfold gm_rot
  by_cases c : a ≤ b ∧ b ≤ T.length
  · rw [if_pos c]
    have e : T = T.take a ++ (T.take b).drop a ++ T.drop b := by
      have e1 : T.take a = (T.take b).take a := by rw [List.take_take, Nat.min_eq_left c.1]
      rw [e1, List.take_append_drop, List.take_append_drop]
    rw [e] at h
    simp only [List.mem_append] at h ⊢
    rcases h with (h | h) | h
    · exact Or.inl (Or.inl h)
    · exact Or.inr h
    · exact Or.inl (Or.inr h)
  · rw [if_neg c]
    exact h
theorem mem_rot' {a b : Nat} {x : Int × Int × Int} (h : x ∈ gm_rot a b T) : x ∈ T := by
  unfold gm_rot at h
  by_cases c : a ≤ b ∧ b ≤ T.length
  · rw [if_pos c] at h
    simp only [List.mem_append] at h
    rcases h with (h | h) | h
    · exact List.mem_of_mem_take h
    · exact List.mem_of_mem_drop h
    · exact List.mem_of_mem_take (List.mem_of_mem_drop h)
  · rw [if_neg c] at h
    exact h
theorem gm_tu_mem {x : Int × Int × Int} (h : x ∈ gm_T s) : x ∈ gm_T (gm_tu s) := by
  unfold gm_tu
  cases gm_P s with
  | nil => exact h
  | cons p q =>
    rw [gm_T_mk]
    exact mem_rot h
theorem gm_mid_T : gm_T (gm_mid s) = gm_T s := by unfold gm_mid; rw [gm_T_mk]
theorem gm_op_t {o : Int} : gm_T (gm_op o s) = gm_T s := by
  unfold gm_op
  split
  · rw [gm_T_mk]
  · rfl
theorem gm_d_T : gm_T (gm_d s) = gm_T s := by unfold gm_d; rw [gm_T_mk]
theorem gm_op_e {o : Int} : gm_D (gm_op o s) = gm_D s ∧ gm_len (gm_op o s) = gm_len s := by
  refine ⟨?_, by unfold gm_len; rw [gm_op_t]⟩
  unfold gm_op
  split
  · rw [gm_D_mk]
  · rfl
theorem gm_c_mem {k v : Int} (h : gm_c k v s = some t) {x : Int × Int × Int} (hx : x ∈ gm_T s) : x ∈ gm_T t := by
  obtain ⟨-, -, t1, -, -⟩ := gm_c_t h
  rw [t1]
  exact List.mem_append_left _ hx
end VS0
/-! what is grown -/
section VG
variable {V : Int → Int} {g : wk_g} {kw : Int → Bool} {s s1 : gm_S} {r r1 : List wk_E}
theorem gv_sg {u : Int} (h : gm_sg g kw u r s = some (r1, s1)) (hV : vo V s1) : dm_sg 0 g V u r (vs V s) = some (r1, vs V s1) ∧ ∀ x ∈ gm_T s, x ∈ gm_T s1 := by
  unfold gm_sg at h
  unfold dm_sg
  by_cases c9 : g 119 u.toNat = 9
  · rw [if_pos c9] at h ⊢
    unfold gm_en at h
    unfold pm_en
    by_cases cu : 12 ≤ wk_ul r
    · rw [if_pos cu] at h
      cases h
    · rw [if_neg cu] at h
      rw [if_neg (by omega)]
      obtain ⟨t, h1, h2⟩ := Option.map_eq_some_iff.mp h
      injection h2 with h3 h4
      subst h3
      subst h4
      have hVt : vo V t := fun x hx => hV x (by rw [gm_d_T]; exact hx)
      have hv := vo_c (by decide) h1 hVt
      have el : gm_len ((gm_X s, gm_F s - 1, gm_T s, gm_D s, gm_P s) : gm_S) = gm_len s := by unfold gm_len; rw [gm_T_mk]
      rw [el] at hv
      have := vs_c (V := V) (s := s) (by decide) h1 (gm_T_mk _ _ _ _ _) (gm_D_mk _ _ _ _ _) (gm_P_mk _ _ _ _ _)
      rw [hv] at this
      rw [this, Option.map_some, vs_d]
      refine ⟨rfl, fun x hx => ?_⟩
      rw [gm_d_T]
      exact gm_c_mem h1 (by rw [gm_T_mk]; exact hx)
  · rw [if_neg c9] at h ⊢
    by_cases c10 : g 119 u.toNat = 10
    · rw [if_pos c10] at h ⊢
      injection h with h
      injection h with h1 h2
      subst h1
      subst h2
      exact ⟨rfl, fun x hx => hx⟩
    · rw [if_neg c10] at h ⊢
      unfold dm_lf
      by_cases c1 : g 119 u.toNat = 1
      · rw [if_pos c1] at h ⊢
        generalize gm_x (gm_X s) = y at h
        generalize gm_v y 10000 = v at h
        obtain ⟨t, h1, h2⟩ := Option.map_eq_some_iff.mp h
        injection h2 with h3 h4
        subst h3
        subst h4
        rw [vs_len, vs_c (V := V) (s := s) (by decide) h1 (gm_T_mk _ _ _ _ _) (gm_D_mk _ _ _ _ _) (gm_P_mk _ _ _ _ _)]
        exact ⟨rfl, fun x hx => gm_c_mem h1 (by rw [gm_T_mk]; exact hx)⟩
      · rw [if_neg c1] at h ⊢
        by_cases c2 : g 119 u.toNat = 2
        · rw [if_pos c2] at h ⊢
          generalize (gm_nm kw (gm_X s)).1 = v at h
          generalize (gm_nm kw (gm_X s)).2 = y at h
          obtain ⟨t, h1, h2⟩ := Option.map_eq_some_iff.mp h
          injection h2 with h3 h4
          subst h3
          subst h4
          rw [vs_len, vs_c (V := V) (s := s) (by decide) h1 (gm_T_mk _ _ _ _ _) (gm_D_mk _ _ _ _ _) (gm_P_mk _ _ _ _ _)]
          exact ⟨rfl, fun x hx => gm_c_mem h1 (by rw [gm_T_mk]; exact hx)⟩
        · rw [if_neg c2] at h ⊢
          injection h with h
          injection h with h1 h2
          subst h1
          subst h2
          exact ⟨rfl, fun x hx => hx⟩
theorem gv_st {e : wk_E} (hb : e.1 = 1 → 1 < g 130 e.2.1.toNat → g 130 e.2.1.toNat ≤ 10000) (h : gm_st g kw e r s = some (r1, s1)) (hV : vo V s1) : dm_st g V 0 e r (vs V s) = some (r1, vs V s1) ∧ ∀ x ∈ gm_T s, x ∈ gm_T s1 := by
  unfold gm_st at h
  unfold dm_st
  by_cases c0 : e.1 = 0
  · rw [if_pos c0] at h ⊢
    unfold dm_u
    have yT : gm_T (gm_y (gm_op e.2.2 s)) = gm_T (gm_op e.2.2 s) := by unfold gm_y; rw [gm_T_mk]
    have yD : gm_D (gm_y (gm_op e.2.2 s)) = gm_D (gm_op e.2.2 s) := by unfold gm_y; rw [gm_D_mk]
    have yP : gm_P (gm_y (gm_op e.2.2 s)) = gm_P (gm_op e.2.2 s) := by unfold gm_y; rw [gm_P_mk]
    have el : gm_len (gm_y (gm_op e.2.2 s)) = gm_len (gm_op e.2.2 s) := by unfold gm_len; rw [yT]
    rw [vs_op]
    by_cases c1 : g 122 e.2.1.toNat = 1
    · rw [if_pos c1] at h ⊢
      generalize gm_n 3 s = n at h
      generalize gm_y (gm_op e.2.2 s) = sy at h yT yD yP el
      obtain ⟨t, h1, h2⟩ := Option.map_eq_some_iff.mp h
      injection h2 with h3 h4
      subst h3
      subst h4
      have hVt : vo V t := fun x hx => hV x (by rw [gm_d_T]; exact hx)
      have hv := vo_c (by decide) h1 hVt
      rw [el] at hv
      have := vs_c (V := V) (s := gm_op e.2.2 s) (by decide) h1 yT yD yP
      rw [vs_len, this, Option.map_some, vs_d, hv]
      refine ⟨rfl, fun x hx => ?_⟩
      rw [gm_d_T]
      exact gm_c_mem h1 (by rw [yT, gm_op_t]; exact hx)
    · rw [if_neg c1] at h ⊢
      by_cases c2 : g 122 e.2.1.toNat = 2
      · rw [if_pos c2] at h ⊢
        generalize gm_n 2 s = n at h
        generalize gm_y (gm_op e.2.2 s) = sy at h yT yD yP el
        obtain ⟨t, h1, h2⟩ := Option.bind_eq_some_iff.mp h
        have hc := vs_c (V := V) (s := gm_op e.2.2 s) (by decide) h1 yT yD yP
        have mem : ∀ x ∈ gm_T s, x ∈ gm_T (gm_d t) := fun x hx => by
          rw [gm_d_T]
          exact gm_c_mem h1 (by rw [yT, gm_op_t]; exact hx)
        by_cases cn : 0 < n
        · rw [if_pos cn] at h2
          obtain ⟨i1, i2⟩ := gv_sg h2 hV
          have hVt : vo V t := fun x hx => hV x (i2 x (by rw [gm_d_T]; exact hx))
          have hv := vo_c (by decide) h1 hVt
          rw [el] at hv
          rw [vs_len, hc, Option.bind_some, hv, if_pos cn, vs_d]
          exact ⟨i1, fun x hx => i2 x (mem x hx)⟩
        · rw [if_neg cn] at h2
          injection h2 with h2
          injection h2 with h3 h4
          subst h3
          subst h4
          have hVt : vo V t := fun x hx => hV x (by rw [gm_d_T]; exact hx)
          have hv := vo_c (by decide) h1 hVt
          rw [el] at hv
          rw [vs_len, hc, Option.bind_some, hv, if_neg cn, vs_d]
          exact ⟨rfl, mem⟩
      · rw [if_neg c2] at h ⊢
        obtain ⟨i1, i2⟩ := gv_sg h hV
        exact ⟨i1, fun x hx => i2 x (by rw [gm_op_t]; exact hx)⟩
  · rw [if_neg c0] at h ⊢
    by_cases c1 : e.1 = 1
    · rw [if_pos c1] at h ⊢
      unfold dm_fo
      by_cases cf : 1 < g 130 e.2.1.toNat
      · rw [if_pos cf] at h ⊢
        have wb := gm_w_b (g := g) gm_vbt (f := e.2.1) (by omega) (hb c1 cf) s
        have yT : gm_T (gm_y s) = gm_T s := by unfold gm_y; rw [gm_T_mk]
        have yD : gm_D (gm_y s) = gm_D s := by unfold gm_y; rw [gm_D_mk]
        have yP : gm_P (gm_y s) = gm_P s := by unfold gm_y; rw [gm_P_mk]
        have el : gm_len (gm_y s) = gm_len s := by unfold gm_len; rw [yT]
        generalize gm_w g e.2.1 s = n at h wb
        generalize gm_y s = sy at h yT yD yP el
        obtain ⟨t, h1, h2⟩ := Option.map_eq_some_iff.mp h
        injection h2 with h3 h4
        subst h3
        subst h4
        have hVt : vo V t := fun x hx => hV x (by rw [gm_d_T]; exact hx)
        have hv := vo_c (by decide) h1 hVt
        rw [el] at hv
        have := vs_c (V := V) (s := s) (by decide) h1 yT yD yP
        rw [vs_len, hv, if_pos wb]
        rw [hv] at this
        rw [this, Option.map_some, vs_d]
        refine ⟨rfl, fun x hx => ?_⟩
        rw [gm_d_T]
        exact gm_c_mem h1 (by rw [yT]; exact hx)
      · rw [if_neg cf] at h ⊢
        injection h with h
        injection h with h3 h4
        subst h3
        subst h4
        exact ⟨rfl, fun x hx => hx⟩
    · rw [if_neg c1] at h ⊢
      by_cases c5 : e.1 = 5
      · rw [if_pos c5] at h ⊢
        unfold dm_ag
        by_cases ca : 0 < e.2.2
        · rw [if_pos ca] at h ⊢
          exact gv_sg h hV
        · rw [if_neg ca] at h ⊢
          injection h with h
          injection h with h3 h4
          subst h3
          subst h4
          exact ⟨rfl, fun x hx => hx⟩
      · rw [if_neg c5] at h ⊢
        by_cases c2 : e.1 = 2
        · rw [if_pos c2] at h ⊢
          injection h with h
          injection h with h3 h4
          subst h3
          subst h4
          rw [vs_2]
          exact ⟨rfl, fun x hx => by rw [gm_T_mk]; exact hx⟩
        · rw [if_neg c2] at h ⊢
          by_cases c3 : e.1 = 3
          · rw [if_pos c3] at h ⊢
            injection h with h
            injection h with h3 h4
            subst h3
            subst h4
            rw [vs_mid]
            exact ⟨rfl, fun x hx => by rw [gm_mid_T]; exact hx⟩
          · rw [if_neg c3] at h ⊢
            injection h with h
            injection h with h3 h4
            subst h3
            subst h4
            rw [vs_tu]
            exact ⟨rfl, fun x hx => gm_tu_mem hx⟩
theorem gv_to {Y : wk_Y} (hL : wk_L g Y) (h3 : ∀ f, 0 ≤ f → f < wk_f Y → g 130 f.toNat ≤ 10000) {B' : List wk_E} {s' : gm_S} (hV : vo V s') : ∀ (n : Nat) (c : gm_C), gm_K Y c.1 → gm_to g kw n c (B', s') → pw_to (dm_st g V 0) n (c.1, vs V c.2) (B', vs V s') ∧ ∀ x ∈ gm_T c.2, x ∈ gm_T s' := by
  intro n
  induction n with
  | zero =>
    intro c _ h
    have h : c = (B', s') := h
    subst h
    exact ⟨rfl, fun x hx => hx⟩
  | succ n ih =>
    intro c hK h
    obtain ⟨e, r, c1, a1, a2, a3⟩ := h
    have hK1 : gm_K Y c1.1 := (gm_to_pot hL gm_vbt h3 1 c hK ⟨e, r, c1, a1, a2, rfl⟩).1
    obtain ⟨i1, i2⟩ := ih c1 hK1 a3
    have hV1 : vo V c1.2 := fun x hx => hV x (i2 x hx)
    have hb : e.1 = 1 → 1 < g 130 e.2.1.toNat → g 130 e.2.1.toNat ≤ 10000 := by
      intro q _
      rw [a1] at hK
      obtain ⟨k1, k2, -⟩ := hK.1.2.1 q
      exact h3 _ k1 k2
    obtain ⟨j1, j2⟩ := gv_st hb a2 hV1
    refine ⟨⟨e, r, (c1.1, vs V c1.2), a1, j1, i1⟩, fun x hx => i2 x (j2 x hx)⟩
end VG
/-! what is parsed is a replay of what was made -/
def vl (T : List (Int × Int × Int)) (a : Int) : Int := ((T[a.toNat]?).map (fun x => x.2.1)).getD 0
def cv1 (V : Int → Int) (T : List (Int × Int × Int)) (e : wk_E) : wk_E := if e.1 = 5 then (5, e.2.1, V e.2.2 - vl T e.2.2) else e
def cv (V : Int → Int) (T : List (Int × Int × Int)) (B : List wk_E) : List wk_E := B.map (cv1 V T)
/-- the open ones stand in their order -/
def pm_lt : List wk_E → Prop
  | [] => True
  | e :: r => (e.1 = 5 → ∀ x ∈ r, x.1 = 5 → x.2.2 < e.2.2) ∧ pm_lt r
/-- values so far: at most V's, and V's unless it is open -/
def okp (V : Int → Int) (B : List wk_E) (T : List (Int × Int × Int)) : Prop := ∀ x ∈ T, x.2.1 ≤ V (x.1 / 10) ∧ ((∀ z ∈ B, z.1 = 5 → z.2.2 ≠ x.1 / 10) → V (x.1 / 10) = x.2.1)
section VP0
variable {V : Int → Int} {T : List (Int × Int × Int)} {B r : List wk_E}
theorem cv_app {P : List wk_E} : cv V T (P ++ r) = cv V T P ++ cv V T r := List.map_append
theorem cv_n5 (h : ∀ z ∈ B, z.1 ≠ 5) : cv V T B = B := by
  induction B with
  | nil => rfl
  | cons e B ih =>
    show cv1 V T e :: cv V T B = e :: B
    rw [ih (fun z hz => h z (List.mem_cons_of_mem _ hz))]
    unfold cv1
    rw [if_neg (h e List.mem_cons_self)]
theorem cv_eq2 {T' : List (Int × Int × Int)} (h : ∀ z ∈ B, z.1 = 5 → vl T' z.2.2 = vl T z.2.2) : cv V T' B = cv V T B := by
  induction B with
  | nil => rfl
  | cons e B ih =>
    show cv1 V T' e :: cv V T' B = cv1 V T e :: cv V T B
    rw [ih (fun z hz => h z (List.mem_cons_of_mem _ hz))]
    unfold cv1
    by_cases c : e.1 = 5
    · rw [if_pos c, if_pos c, h e List.mem_cons_self c]
    · rw [if_neg c, if_neg c]
theorem cv_ul : wk_ul (cv V T B) = wk_ul B := by
  induction B with
  | nil => rfl
  | cons e B ih =>
    obtain ⟨a, b, c⟩ := e
    show wk_ul (cv1 V T (a, b, c) :: cv V T B) = wk_ul ((a, b, c) :: B)
    unfold cv1
    dsimp only
    by_cases h5 : a = 5
    · rw [if_pos h5, h5, wk_ul_c (show (5 : Int) ≠ 2 by decide), wk_ul_c (show (5 : Int) ≠ 2 by decide), ih]
    · rw [if_neg h5]
      by_cases h2 : a = 2
      · subst h2
        rw [wk_ul_o, wk_ul_o, ih]
      · rw [wk_ul_c h2, wk_ul_c h2, ih]
theorem vT_up {a : Nat} : ∀ (T : List (Int × Int × Int)) (a : Nat), vT V (pm_up a T) = vT V T := by
  intro T
  induction T with
  | nil => intro a; cases a <;> rfl
  | cons x T ih =>
    intro a
    cases a with
    | zero => rfl
    | succ a =>
      show (x.1, V (x.1 / 10), x.2.2) :: vT V (pm_up a T) = (x.1, V (x.1 / 10), x.2.2) :: vT V T
      rw [ih]
theorem pm_up_mem {x : Int × Int × Int} : ∀ (T : List (Int × Int × Int)) (a : Nat), x ∈ T → ∃ y ∈ pm_up a T, y.1 = x.1 ∧ x.2.1 ≤ y.2.1 := by
  intro T
  induction T with
  | nil => intro a h; cases h
  | cons z T ih =>
    intro a h
    cases a with
    | zero =>
      rcases List.mem_cons.mp h with rfl | h
      · exact ⟨_, List.mem_cons_self, rfl, by show x.2.1 ≤ x.2.1 + 1; omega⟩
      · exact ⟨x, List.mem_cons_of_mem _ h, rfl, Int.le_refl _⟩
    | succ a =>
      rcases List.mem_cons.mp h with rfl | h
      · exact ⟨_, List.mem_cons_self, rfl, Int.le_refl _⟩
      · obtain ⟨y, y1, y2⟩ := ih a h
        exact ⟨y, List.mem_cons_of_mem _ y1, y2⟩
theorem pm_up_mem2 {x : Int × Int × Int} : ∀ (T : List (Int × Int × Int)) (a : Nat), x ∈ T → (∀ z, T[a]? = some z → z.1 ≠ x.1) → x ∈ pm_up a T := by
  intro T
  induction T with
  | nil => intro a h; cases h
  | cons z T ih =>
    intro a h hz
    cases a with
    | zero =>
      rcases List.mem_cons.mp h with rfl | h
      · exact absurd rfl (hz x rfl)
      · exact List.mem_cons_of_mem _ h
    | succ a =>
      rcases List.mem_cons.mp h with rfl | h
      · exact List.mem_cons_self
      · exact List.mem_cons_of_mem _ (ih a h (fun w hw => hz w hw))
theorem pm_up_mem3 {x : Int × Int × Int} : ∀ (T : List (Int × Int × Int)) (a : Nat), x ∈ pm_up a T → ∃ y ∈ T, y.1 = x.1 := by
  intro T
  induction T with
  | nil => intro a h; cases a <;> cases h
  | cons z T ih =>
    intro a h
    cases a with
    | zero =>
      rcases List.mem_cons.mp h with rfl | h
      · exact ⟨z, List.mem_cons_self, rfl⟩
      · exact ⟨x, List.mem_cons_of_mem _ h, rfl⟩
    | succ a =>
      rcases List.mem_cons.mp h with rfl | h
      · exact ⟨x, List.mem_cons_self, rfl⟩
      · obtain ⟨y, y1, y2⟩ := ih a h
        exact ⟨y, List.mem_cons_of_mem _ y1, y2⟩
theorem pm_it_c {g : wk_g} : ∀ (n : Nat) (u : Int), ∀ x ∈ wk_it g n u, 0 ≤ x.1 ∧ x.1 ≤ 5 := by
  intro n
  induction n with
  | zero => intro u x hx; cases hx
  | succ n ih =>
    intro u x hx
    unfold wk_it at hx
    split at hx
    · cases hx
    · split at hx
      · simp only [List.mem_cons] at hx
        rcases hx with rfl | rfl | rfl | rfl | hx
        · exact ⟨show (0 : Int) ≤ 0 by decide, show (0 : Int) ≤ 5 by decide⟩
        · exact ⟨show (0 : Int) ≤ 3 by decide, show (3 : Int) ≤ 5 by decide⟩
        · exact ⟨show (0 : Int) ≤ 0 by decide, show (0 : Int) ≤ 5 by decide⟩
        · exact ⟨show (0 : Int) ≤ 4 by decide, show (4 : Int) ≤ 5 by decide⟩
        · exact ih _ x hx
      · simp only [List.mem_cons] at hx
        rcases hx with rfl | hx
        · exact ⟨show (0 : Int) ≤ 0 by decide, show (0 : Int) ≤ 5 by decide⟩
        · exact ih _ x hx
theorem pm_lt_app {P : List wk_E} (h : ∀ z ∈ P, z.1 ≠ 5) (hr : pm_lt r) : pm_lt (P ++ r) := by
  induction P with
  | nil => exact hr
  | cons e P ih => exact ⟨fun q => absurd q (h e List.mem_cons_self), ih (fun z hz => h z (List.mem_cons_of_mem _ hz))⟩
end VP0
section VP1
variable {V : Int → Int} {g : wk_g} {E : pm_E} {s s1 : gm_S} {r r1 : List wk_E}
theorem nP2 {a b c a' b' c' : Int} (h : a ≠ 5) (h' : a' ≠ 5) : ∀ z ∈ ([(a, b, c), (a', b', c')] : List wk_E), z.1 ≠ 5 := fun z hz => by
  rcases List.mem_cons.mp hz with rfl | hz
  · exact h
  · rw [List.mem_singleton.mp hz]
    exact h'
theorem nP1 {a b c : Int} (h : a ≠ 5) : ∀ z ∈ ([(a, b, c)] : List wk_E), z.1 ≠ 5 := fun z hz => by
  rw [List.mem_singleton.mp hz]
  exact h
/-- a node that comes, as what is appended -/
theorem pv_c {k v : Int} {t : gm_S} (hk : 0 ≤ k ∧ k < 10) (h : gm_c k v s = some t) : ∃ A, gm_T t = gm_T s ++ A ∧ (∀ x ∈ A, 0 ≤ x.1 ∧ x.1 / 10 = gm_len s ∧ x.2.1 = v) ∧ gm_len t = gm_len s + 1 ∧ ∃ d, A = [(k + 10 * gm_len s, v, d)] := by
  obtain ⟨-, -, t1, -, -⟩ := gm_c_t h
  refine ⟨_, t1, fun x hx => ?_, ?_, gm_D s, rfl⟩
  · rw [List.mem_singleton.mp hx]
    refine ⟨?_, ?_, rfl⟩
    · show 0 ≤ k + 10 * ((gm_T s).length : Int)
      omega
    · show (k + 10 * ((gm_T s).length : Int)) / 10 = ((gm_T s).length : Int)
      omega
  · have := (gm_c_len h).2
    unfold gm_len
    omega
theorem pv_sg {u : Int} (h : pm_sg 0 g E u r s = some (r1, s1)) : ∃ P A, r1 = P ++ r ∧ (∀ z ∈ P, z.1 ≠ 5 ∧ 0 ≤ z.1 ∧ z.1 ≤ 5) ∧ gm_T s1 = gm_T s ++ A ∧ (∀ x ∈ A, 0 ≤ x.1 ∧ x.1 / 10 = gm_len s ∧ gm_len s < gm_len s1) ∧ gm_len s ≤ gm_len s1 ∧ ((∀ x ∈ A, V (x.1 / 10) = x.2.1) → ∀ r', wk_ul r' = wk_ul r → dm_sg 0 g V u r' (vs V s) = some (P ++ r', vs V s1)) := by
  unfold pm_sg at h
  unfold dm_sg
  by_cases c9 : g 119 u.toNat = 9
  · rw [if_pos c9] at h
    unfold pm_en at h
    by_cases cu : 12 ≤ 0 + wk_ul r
    · rw [if_pos cu] at h
      cases h
    · rw [if_neg cu] at h
      obtain ⟨t, h1, h2⟩ := Option.map_eq_some_iff.mp h
      injection h2 with h3 h4
      subst h3
      subst h4
      obtain ⟨A, a1, a2, a3, -⟩ := pv_c (by decide) h1
      have el : gm_len (gm_d t) = gm_len t := gm_d_e.1
      refine ⟨[(1, _, 0), (2, 1, 0)], A, rfl, fun z hz => ?_, by rw [gm_d_T]; exact a1, fun x hx => ⟨(a2 x hx).1, (a2 x hx).2.1, by omega⟩, by omega, fun hA r' hr => ?_⟩
      · refine ⟨nP2 (by decide) (by decide) z hz, ?_⟩
        rcases List.mem_cons.mp hz with rfl | hz
        · exact ⟨show (0 : Int) ≤ 1 by decide, show (1 : Int) ≤ 5 by decide⟩
        · rw [List.mem_singleton.mp hz]
          exact ⟨show (0 : Int) ≤ 2 by decide, show (2 : Int) ≤ 5 by decide⟩
      · rw [if_pos c9]
        unfold pm_en
        rw [hr, if_neg cu]
        obtain ⟨-, -, t1, -, -⟩ := gm_c_t h1
        have eA : A = [(1 + 10 * ((gm_T s).length : Int), g 115 (g 120 u.toNat).toNat, gm_D s)] := List.append_cancel_left (a1.symm.trans t1)
        have hv := hA _ (by rw [eA]; exact List.mem_cons_self)
        dsimp only at hv
        rw [show (1 + 10 * ((gm_T s).length : Int)) / 10 = ((gm_T s).length : Int) by omega] at hv
        have hv : V (gm_len s) = g 115 (g 120 u.toNat).toNat := hv
        have := vs_c (V := V) (s := s) (by decide) h1 rfl rfl rfl
        rw [hv] at this
        rw [this, Option.map_some, vs_d]
        rfl
  · rw [if_neg c9] at h
    by_cases c10 : g 119 u.toNat = 10
    · rw [if_pos c10] at h
      injection h with h
      injection h with h1 h2
      subst h1
      subst h2
      refine ⟨[(1, g 120 u.toNat, 0)], [], rfl, fun z hz => ?_, (List.append_nil _).symm, fun x hx => (by cases hx), Int.le_refl _, fun _ r' _ => ?_⟩
      · rw [List.mem_singleton.mp hz]
        exact ⟨show (1 : Int) ≠ 5 by decide, show (0 : Int) ≤ 1 by decide, show (1 : Int) ≤ 5 by decide⟩
      · rw [if_neg c9, if_pos c10]
        rfl
    · rw [if_neg c10] at h
      obtain ⟨t, h1, h2⟩ := Option.map_eq_some_iff.mp h
      injection h2 with h3 h4
      subst h3
      subst h4
      unfold pm_lf at h1
      -- a node of kind k
      have node : ∀ k v t', (0 ≤ k ∧ k < 10) → (∀ w : gm_S, gm_c k (V (gm_len s)) (vs V s) = some w → dm_lf V (g 119 u.toNat) (vs V s) = some w) → (gm_c k v s).map pm_nx = some t' → ∃ P A, r = P ++ r ∧ (∀ z ∈ P, z.1 ≠ 5 ∧ 0 ≤ z.1 ∧ z.1 ≤ 5) ∧ gm_T t' = gm_T s ++ A ∧ (∀ x ∈ A, 0 ≤ x.1 ∧ x.1 / 10 = gm_len s ∧ gm_len s < gm_len t') ∧ gm_len s ≤ gm_len t' ∧ ((∀ x ∈ A, V (x.1 / 10) = x.2.1) → ∀ r', wk_ul r' = wk_ul r → (if g 119 u.toNat = 9 then pm_en 0 g (g 115 (g 120 u.toNat).toNat) r' (vs V s) else if g 119 u.toNat = 10 then some ((1, g 120 u.toNat, 0) :: r', vs V s) else (dm_lf V (g 119 u.toNat) (vs V s)).map (fun t => (r', t))) = some (P ++ r', vs V t')) := by
        intro k v t' hk hd h
        obtain ⟨t, h1, h2⟩ := Option.map_eq_some_iff.mp h
        subst h2
        obtain ⟨A, a1, a2, a3, -⟩ := pv_c hk h1
        obtain ⟨n1, n2, n3, n4⟩ := pm_nx_e (s := t)
        have el : gm_len (pm_nx t) = gm_len t := by unfold gm_len; rw [n2]
        refine ⟨[], A, rfl, fun z hz => (by cases hz), by rw [n2]; exact a1, fun x hx => ⟨(a2 x hx).1, (a2 x hx).2.1, by omega⟩, by omega, fun _ r' _ => ?_⟩
        rw [if_neg c9, if_neg c10, hd _ (vs_c (V := V) (s := s) hk h1 rfl rfl rfl), vs_e n2 n3 n4]
        rfl
      -- nothing comes
      have no : ∀ t', (gm_T t' = gm_T s ∧ gm_D t' = gm_D s ∧ gm_P t' = gm_P s) → g 119 u.toNat ≠ 1 → g 119 u.toNat ≠ 2 → ∃ P A, r = P ++ r ∧ (∀ z ∈ P, z.1 ≠ 5 ∧ 0 ≤ z.1 ∧ z.1 ≤ 5) ∧ gm_T t' = gm_T s ++ A ∧ (∀ x ∈ A, 0 ≤ x.1 ∧ x.1 / 10 = gm_len s ∧ gm_len s < gm_len t') ∧ gm_len s ≤ gm_len t' ∧ ((∀ x ∈ A, V (x.1 / 10) = x.2.1) → ∀ r', wk_ul r' = wk_ul r → (if g 119 u.toNat = 9 then pm_en 0 g (g 115 (g 120 u.toNat).toNat) r' (vs V s) else if g 119 u.toNat = 10 then some ((1, g 120 u.toNat, 0) :: r', vs V s) else (dm_lf V (g 119 u.toNat) (vs V s)).map (fun t => (r', t))) = some (P ++ r', vs V t')) := by
        intro t' ⟨e1, e2, e3⟩ n1 n2
        have el : gm_len t' = gm_len s := by unfold gm_len; rw [e1]
        refine ⟨[], [], rfl, fun z hz => (by cases hz), by rw [e1, List.append_nil], fun x hx => (by cases hx), by omega, fun _ r' _ => ?_⟩
        rw [if_neg c9, if_neg c10, vs_e e1 e2 e3]
        unfold dm_lf
        rw [if_neg n1, if_neg n2]
        rfl
      by_cases c1 : g 119 u.toNat = 1
      · rw [if_pos c1] at h1
        split at h1
        · exact node 2 _ _ (by decide) (fun w hw => by unfold dm_lf; rw [if_pos c1, vs_len]; exact hw) h1
        · cases h1
      · rw [if_neg c1] at h1
        by_cases c2 : g 119 u.toNat = 2
        · rw [if_pos c2] at h1
          split at h1
          · exact node 3 _ _ (by decide) (fun w hw => by unfold dm_lf; rw [if_neg c1, if_pos c2, vs_len]; exact hw) h1
          · cases h1
        · rw [if_neg c2] at h1
          split at h1
          · split at h1
            · injection h1 with h1
              subst h1
              exact no _ ⟨pm_nx_e.2.1, pm_nx_e.2.2.1, pm_nx_e.2.2.2⟩ c1 c2
            · cases h1
          · injection h1 with h1
            subst h1
            exact no _ ⟨rfl, rfl, rfl⟩ c1 c2
end VP1
/-! the parsing walk's turns are those of the replay -/
def pv_w (c : gm_C) : Prop := (∀ e ∈ c.1, 0 ≤ e.1 ∧ e.1 ≤ 5) ∧ (∀ e ∈ c.1, e.1 = 5 → ∃ v d, (gm_T c.2)[e.2.2.toNat]? = some (5 + 10 * e.2.2, v, d)) ∧ pm_lt c.1 ∧ ∀ x ∈ gm_T c.2, 0 ≤ x.1 ∧ x.1 / 10 < gm_len c.2
section VP2
variable {V : Int → Int} {g : wk_g} {E : pm_E} {s s1 : gm_S} {r r1 : List wk_E}
theorem pv_a (hw : pv_w (r, s)) {z : wk_E} (hz : z ∈ r) (z5 : z.1 = 5) : 0 ≤ z.2.2 ∧ z.2.2 < gm_len s ∧ z.2.2.toNat < (gm_T s).length ∧ ∃ v d, (gm_T s)[z.2.2.toNat]? = some (5 + 10 * z.2.2, v, d) ∧ (5 + 10 * z.2.2, v, d) ∈ gm_T s := by
  obtain ⟨v, d, h⟩ := hw.2.1 z hz z5
  have hm := List.mem_of_getElem? h
  obtain ⟨t1, t2⟩ := hw.2.2.2 _ hm
  dsimp only at t1 t2
  have : z.2.2.toNat < (gm_T s).length := by
    by_cases c : z.2.2.toNat < (gm_T s).length
    · exact c
    · have h : (gm_T s)[z.2.2.toNat]? = some (5 + 10 * z.2.2, v, d) := h
      rw [List.getElem?_eq_none (by omega)] at h
      cases h
  exact ⟨by omega, by omega, this, v, d, h, hm⟩
/-- what is appended, and what is put on the stack -/
theorem pv_ap {P : List wk_E} {A : List (Int × Int × Int)} (hw : pv_w (r, s)) (hP : ∀ z ∈ P, z.1 ≠ 5 ∧ 0 ≤ z.1 ∧ z.1 ≤ 5) (hT : gm_T s1 = gm_T s ++ A) (hA : ∀ x ∈ A, 0 ≤ x.1 ∧ gm_len s ≤ x.1 / 10 ∧ x.1 / 10 < gm_len s1) (hl : gm_len s ≤ gm_len s1) : pv_w (P ++ r, s1) ∧ ∀ z ∈ r, z.1 = 5 → vl (gm_T s1) z.2.2 = vl (gm_T s) z.2.2 := by
  have get : ∀ z ∈ r, z.1 = 5 → (gm_T s1)[z.2.2.toNat]? = (gm_T s)[z.2.2.toNat]? := fun z hz z5 => by
    rw [hT, List.getElem?_append_left (pv_a hw hz z5).2.2.1]
  refine ⟨⟨fun e he => ?_, fun e he e5 => ?_, pm_lt_app (fun z hz => (hP z hz).1) hw.2.2.1, fun x hx => ?_⟩, fun z hz z5 => ?_⟩
  · rcases List.mem_append.mp he with he | he
    · exact (hP e he).2
    · exact hw.1 e he
  · rcases List.mem_append.mp he with he | he
    · exact absurd e5 (hP e he).1
    · obtain ⟨v, d, h⟩ := hw.2.1 e he e5
      exact ⟨v, d, (get e he e5).trans h⟩
  · have hx : x ∈ gm_T s1 := hx
    rw [hT] at hx
    rcases List.mem_append.mp hx with hx | hx
    · have := hw.2.2.2 x hx
      dsimp only at this ⊢
      omega
    · have := hA x hx
      dsimp only
      omega
  · unfold vl
    rw [get z hz z5]
/-- .. backwards: of the values -/
theorem okp_ap {A T T1 : List (Int × Int × Int)} (hT : T1 = T ++ A) (hz : ∀ x ∈ T, (∀ z ∈ r, z.1 = 5 → z.2.2 ≠ x.1 / 10) → ∀ z ∈ r1, z.1 = 5 → z.2.2 ≠ x.1 / 10) (hk : okp V r1 T1) : okp V r T := fun x hx => by
  obtain ⟨k1, k2⟩ := hk x (by rw [hT]; exact List.mem_append_left _ hx)
  exact ⟨k1, fun q => k2 (hz x hx q)⟩
theorem okp_P {P : List wk_E} (hP : ∀ z ∈ P, z.1 ≠ 5) {i : Int} (h : ∀ z ∈ r, z.1 = 5 → z.2.2 ≠ i) : ∀ z ∈ P ++ r, z.1 = 5 → z.2.2 ≠ i := fun z hz z5 => by
  rcases List.mem_append.mp hz with hz | hz
  · exact absurd z5 (hP z hz)
  · exact h z hz z5
theorem okp_cons {e : wk_E} {T : List (Int × Int × Int)} (h5 : e.1 ≠ 5) (h : okp V r T) : okp V (e :: r) T := fun x hx => ⟨(h x hx).1, fun hz => (h x hx).2 (fun z hz' z5 => hz z (List.mem_cons_of_mem _ hz') z5)⟩
theorem pv_tail {e : wk_E} (hw : pv_w (e :: r, s)) : pv_w (r, s) := ⟨fun z hz => hw.1 z (List.mem_cons_of_mem _ hz), fun z hz => hw.2.1 z (List.mem_cons_of_mem _ hz), hw.2.2.1.2, hw.2.2.2⟩
theorem pv_s {t : gm_S} (hw : pv_w (r, s)) (e : gm_T t = gm_T s) : pv_w (r, t) := by
  unfold pv_w gm_len at hw ⊢
  dsimp only at hw ⊢
  rw [e]
  exact hw
theorem rot_lt {a p q : Nat} {T : List (Int × Int × Int)} (h : a < p) : (gm_rot p q T)[a]? = T[a]? := by
  unfold gm_rot
  by_cases c : p ≤ q ∧ q ≤ T.length
  · rw [if_pos c, List.append_assoc, List.getElem?_append_left (by rw [List.length_take]; omega), List.getElem?_take_of_lt h]
  · rw [if_neg c]
/-- the new values that are no open ones' -/
theorem okp_new {A T T1 : List (Int × Int × Int)} {L : Int} (hT : T1 = T ++ A) (hA : ∀ x ∈ A, x.1 / 10 = L) (hL : ∀ z ∈ r1, z.1 = 5 → z.2.2 < L) (hk : okp V r1 T1) : ∀ x ∈ A, V (x.1 / 10) = x.2.1 := fun x hx => (hk x (by rw [hT]; exact List.mem_append_right _ hx)).2 (fun z hz z5 => by
  have := hL z hz z5
  have := hA x hx
  omega)
/-- a part by itself, from where it goes -/
theorem pv_sgs {u : Int} (hw : pv_w (r, s)) (h : pm_sg 0 g E u r s = some (r1, s1)) : pv_w (r1, s1) ∧ ∃ P, r1 = P ++ r ∧ (∀ z ∈ P, z.1 ≠ 5) ∧ cv V (gm_T s1) r = cv V (gm_T s) r ∧ (okp V r1 (gm_T s1) → okp V r (gm_T s) ∧ ∀ r', wk_ul r' = wk_ul r → dm_sg 0 g V u r' (vs V s) = some (P ++ r', vs V s1)) := by
  obtain ⟨P, A, p1, p2, p3, p4, p5, p6⟩ := pv_sg (V := V) h
  subst p1
  obtain ⟨w1, w3⟩ := pv_ap hw p2 p3 (fun x hx => by have := p4 x hx; omega) p5
  refine ⟨w1, P, rfl, fun z hz => (p2 z hz).1, cv_eq2 w3, fun hk => ⟨okp_ap p3 (fun x hx q => okp_P (fun z hz => (p2 z hz).1) q) hk, p6 (okp_new p3 (fun x hx => (p4 x hx).2.1) (fun z hz z5 => ?_) hk)⟩⟩
  rcases List.mem_append.mp hz with hz | hz
  · exact absurd z5 (p2 z hz).1
  · exact (pv_a hw hz z5).2.1
/-- a node, and what is open in it, over a stack -/
theorem pv_nd {k v : Int} {t : gm_S} {P : List wk_E} (hk0 : 0 ≤ k ∧ k < 10) (hw : pv_w (r, s)) (h1 : gm_c k v s = some t) (hP : ∀ z ∈ P, z.1 ≠ 5 ∧ 0 ≤ z.1 ∧ z.1 ≤ 5) : pv_w (P ++ r, gm_d t) ∧ (okp V (P ++ r) (gm_T (gm_d t)) → okp V r (gm_T s) ∧ V (gm_len s) = v) ∧ (∀ z ∈ r, z.1 = 5 → vl (gm_T (gm_d t)) z.2.2 = vl (gm_T s) z.2.2) := by
  obtain ⟨A, a1, a2, a3, d, a4⟩ := pv_c hk0 h1
  have ld : gm_len (gm_d t) = gm_len t := gm_d_e.1
  have aT : gm_T (gm_d t) = gm_T s ++ A := by rw [gm_d_T]; exact a1
  obtain ⟨w1, w3⟩ := pv_ap hw hP aT (fun x hx => by have := a2 x hx; omega) (by omega)
  refine ⟨w1, fun hk => ⟨okp_ap aT (fun x hx q => okp_P (fun z hz => (hP z hz).1) q) hk, ?_⟩, w3⟩
  have := okp_new aT (fun x hx => (a2 x hx).2.1) (fun z hz z5 => by
    rcases List.mem_append.mp hz with hz | hz
    · exact absurd z5 (hP z hz).1
    · exact (pv_a hw hz z5).2.1) hk _ (by rw [a4]; exact List.mem_cons_self)
  dsimp only at this
  rwa [show (k + 10 * gm_len s) / 10 = gm_len s by omega] at this
theorem n2P : ∀ z ∈ ([(2, 0, 0)] : List wk_E), z.1 ≠ 5 ∧ 0 ≤ z.1 ∧ z.1 ≤ 5 := fun z hz => by
  rw [List.mem_singleton.mp hz]
  exact ⟨show (2 : Int) ≠ 5 by decide, show (0 : Int) ≤ 2 by decide, show (2 : Int) ≤ 5 by decide⟩
theorem pv_st {e : wk_E} (hI : pm_I (e :: r, s)) (hw : pv_w (e :: r, s)) (h : pm_st g E 0 e r s = some (r1, s1)) : pv_w (r1, s1) ∧ (okp V r1 (gm_T s1) → okp V (e :: r) (gm_T s) ∧ dm_st g V 0 (cv1 V (gm_T s) e) (cv V (gm_T s) r) (vs V s) = some (cv V (gm_T s1) r1, vs V s1)) := by
  have hwr := pv_tail hw
  have hul : wk_ul (cv V (gm_T s) r) = wk_ul r := cv_ul
  unfold pm_st at h
  by_cases c0 : e.1 = 0
  · rw [if_pos c0] at h
    have n5 : e.1 ≠ 5 := by omega
    have e1 : cv1 V (gm_T s) e = e := by unfold cv1; rw [if_neg n5]
    rw [e1]
    unfold dm_st
    rw [if_pos c0, vs_op]
    have hwo : pv_w (r, gm_op e.2.2 s) := pv_s hwr gm_op_t
    have To : gm_T (gm_op e.2.2 s) = gm_T s := gm_op_t
    rw [← To] at hul ⊢
    generalize gm_op e.2.2 s = so at h hwo To hul ⊢
    unfold pm_u at h
    unfold dm_u
    by_cases c1 : g 122 e.2.1.toNat = 1
    · rw [if_pos c1] at h ⊢
      obtain ⟨t, h1, h2⟩ := Option.map_eq_some_iff.mp h
      injection h2 with h3 h4
      subst h3
      subst h4
      obtain ⟨A, a1, a2, a3, d, a4⟩ := pv_c (by decide) h1
      have aT : gm_T (gm_d t) = gm_T so ++ A := by rw [gm_d_T]; exact a1
      obtain ⟨w1, w2, w3⟩ := pv_nd (V := V) (P := [(2, 0, 0)]) (by decide) hwo h1 n2P
      have gl : gm_len so = ((gm_T so).length : Int) := rfl
      have hget : (gm_T (gm_d t))[(gm_len so).toNat]? = some (5 + 10 * gm_len so, 0, d) := by
        rw [aT, a4, show (gm_len so).toNat = (gm_T so).length by omega, List.getElem?_append_right (Nat.le_refl _), Nat.sub_self]
        rfl
      refine ⟨⟨fun z hz => ?_, fun z hz z5 => ?_, ⟨fun _ x hx x5 => ?_, w1.2.2.1⟩, w1.2.2.2⟩, fun hk => ⟨okp_cons n5 (okp_ap aT (fun x hx q => fun z hz z5 => ?_) hk), ?_⟩⟩
      · rcases List.mem_cons.mp hz with rfl | hz
        · exact ⟨show (0 : Int) ≤ 5 by decide, show (5 : Int) ≤ 5 by decide⟩
        · exact w1.1 z hz
      · rcases List.mem_cons.mp hz with rfl | hz
        · exact ⟨0, d, hget⟩
        · exact w1.2.1 z hz z5
      · rcases List.mem_cons.mp hx with rfl | hx
        · exact absurd x5 (show (2 : Int) ≠ 5 by decide)
        · exact (pv_a hwo hx x5).2.1
      · rcases List.mem_cons.mp hz with rfl | hz
        · have := (hwo.2.2.2 x hx).2
          dsimp only at this ⊢
          omega
        · rcases List.mem_cons.mp hz with rfl | hz
          · exact absurd z5 (show (2 : Int) ≠ 5 by decide)
          · exact q z hz z5
      · have := vs_c (V := V) (s := so) (by decide) h1 rfl rfl rfl
        rw [vs_len, this, Option.map_some, vs_d]
        have ec : cv V (gm_T (gm_d t)) ((5, e.2.1, gm_len so) :: (2, 0, 0) :: r) = (5, e.2.1, V (gm_len so)) :: (2, 0, 0) :: cv V (gm_T so) r := by
          show cv1 V (gm_T (gm_d t)) (5, e.2.1, gm_len so) :: cv1 V (gm_T (gm_d t)) (2, 0, 0) :: cv V (gm_T (gm_d t)) r = _
          rw [cv_eq2 w3]
          unfold cv1
          dsimp only
          rw [if_pos rfl, if_neg (show ¬ (2 : Int) = 5 by decide)]
          unfold vl
          rw [hget]
          show (5, e.2.1, V (gm_len so) - 0) :: _ = _
          rw [Int.sub_zero]
        rw [ec]
    · rw [if_neg c1] at h ⊢
      by_cases c2 : g 122 e.2.1.toNat = 2
      · rw [if_pos c2] at h ⊢
        obtain ⟨t, h1, h2⟩ := Option.bind_eq_some_iff.mp h
        obtain ⟨w1, w2, w3⟩ := pv_nd (V := V) (P := [(2, 0, 0)]) (by decide) hwo h1 n2P
        have hc := vs_c (V := V) (s := so) (by decide) h1 rfl rfl rfl
        by_cases ch : pm_h E e.2.1 so = true
        · rw [if_pos ch] at h2 w2
          obtain ⟨x1, P, x3, x4, x6, x7⟩ := pv_sgs (V := V) w1 h2
          refine ⟨x1, fun hk => ?_⟩
          obtain ⟨x2, x5⟩ := x7 hk
          obtain ⟨y1, y2⟩ := w2 x2
          refine ⟨okp_cons n5 y1, ?_⟩
          rw [vs_len, hc, Option.bind_some, y2, if_pos (by decide), vs_d, x5 ((2, 0, 0) :: cv V (gm_T so) r) (by
            show wk_ul ((2, 0, 0) :: cv V (gm_T so) r) = wk_ul ((2, 0, 0) :: r)
            rw [wk_ul_o, wk_ul_o, hul]), x3, cv_app, cv_n5 x4, x6]
          have ec : cv V (gm_T (gm_d t)) ([(2, 0, 0)] ++ r) = (2, 0, 0) :: cv V (gm_T so) r := by
            rw [cv_app, cv_n5 (fun z hz => (n2P z hz).1), cv_eq2 w3]
            rfl
          rw [ec]
        · rw [if_neg ch] at h2 w2
          injection h2 with h2
          injection h2 with h3 h4
          subst h3
          subst h4
          refine ⟨w1, fun hk => ?_⟩
          obtain ⟨y1, y2⟩ := w2 hk
          refine ⟨okp_cons n5 y1, ?_⟩
          rw [vs_len, hc, Option.bind_some, y2, if_neg (by decide), vs_d]
          have ec : cv V (gm_T (gm_d t)) ([(2, 0, 0)] ++ r) = (2, 0, 0) :: cv V (gm_T so) r := by
            rw [cv_app, cv_n5 (fun z hz => (n2P z hz).1), cv_eq2 w3]
            rfl
          rw [show ((2, 0, 0) :: r : List wk_E) = [(2, 0, 0)] ++ r from rfl, ec]
      · rw [if_neg c2] at h ⊢
        obtain ⟨x1, P, x3, x4, x6, x7⟩ := pv_sgs (V := V) hwo h
        refine ⟨x1, fun hk => ?_⟩
        obtain ⟨x2, x5⟩ := x7 hk
        refine ⟨okp_cons n5 x2, ?_⟩
        rw [x5 _ hul, x3, cv_app, cv_n5 x4, x6]
  · rw [if_neg c0] at h
    by_cases c1 : e.1 = 1
    · rw [if_pos c1] at h
      have n5 : e.1 ≠ 5 := by omega
      have e1 : cv1 V (gm_T s) e = e := by unfold cv1; rw [if_neg n5]
      rw [e1]
      unfold dm_st
      rw [if_neg c0, if_pos c1]
      unfold pm_fo at h
      unfold dm_fo
      by_cases cf : 1 < g 130 e.2.1.toNat
      · rw [if_pos cf] at h ⊢
        obtain ⟨n, h0, h⟩ := Option.bind_eq_some_iff.mp h
        unfold pm_w at h0
        obtain ⟨j, j1, j2, -⟩ := pm_dr_e _ _ _ _ h0
        obtain ⟨t, h1, h2⟩ := Option.map_eq_some_iff.mp h
        injection h2 with h3 h4
        subst h3
        subst h4
        obtain ⟨w1, w2, w3⟩ := pv_nd (V := V) (P := wk_it g 61 (g 126 (wk_alt g n.toNat (g 129 e.2.1.toNat)).toNat) ++ [(2, 0, 0)]) (by decide) hwr h1 (fun z hz => by
          rcases List.mem_append.mp hz with hz | hz
          · exact ⟨pm_it_5 _ _ z hz, pm_it_c _ _ z hz⟩
          · exact n2P z hz)
        rw [List.append_assoc] at w1 w2
        refine ⟨w1, fun hk => ?_⟩
        obtain ⟨y1, y2⟩ := w2 hk
        refine ⟨okp_cons n5 y1, ?_⟩
        have := vs_c (V := V) (s := s) (by decide) h1 rfl rfl rfl
        rw [y2] at this
        rw [vs_len, y2, if_pos ⟨by omega, by omega⟩, this, Option.map_some, vs_d, cv_app, cv_n5 (fun z hz => pm_it_5 _ _ z hz)]
        have ec : cv V (gm_T (gm_d t)) ([(2, 0, 0)] ++ r) = (2, 0, 0) :: cv V (gm_T s) r := by
          rw [cv_app, cv_n5 (fun z hz => (n2P z hz).1), cv_eq2 w3]
          rfl
        rw [show ((2, 0, 0) :: r : List wk_E) = [(2, 0, 0)] ++ r from rfl, ec]
      · rw [if_neg cf] at h ⊢
        injection h with h
        injection h with h3 h4
        subst h3
        subst h4
        obtain ⟨w1, w3⟩ := pv_ap (s1 := s) (A := []) (P := wk_it g 61 (g 126 (g 129 e.2.1.toNat).toNat)) hwr (fun z hz => ⟨pm_it_5 _ _ z hz, pm_it_c _ _ z hz⟩) (List.append_nil _).symm (fun x hx => by cases hx) (Int.le_refl _)
        refine ⟨w1, fun hk => ⟨okp_cons n5 (okp_ap (A := []) (List.append_nil _).symm (fun x hx q => okp_P (fun z hz => pm_it_5 _ _ z hz) q) hk), ?_⟩⟩
        rw [cv_app, cv_n5 (fun z hz => pm_it_5 _ _ z hz)]
    · rw [if_neg c1] at h
      by_cases c5 : e.1 = 5
      · rw [if_pos c5] at h
        obtain ⟨z0, z1, z2, v, d, zg, zm⟩ := pv_a hw List.mem_cons_self c5
        have evl : vl (gm_T s) e.2.2 = v := by unfold vl; rw [zg]; rfl
        have e1 : cv1 V (gm_T s) e = (5, e.2.1, V e.2.2 - v) := by unfold cv1; rw [if_pos c5, evl]
        have hlt := hw.2.2.1.1 c5
        rw [e1, dm_st_5]
        unfold pm_ag at h
        unfold dm_ag
        by_cases ch : pm_h E e.2.1 s = true
        · rw [if_pos ch] at h
          obtain ⟨i1, i2, i3, i4⟩ := pm_inc_e (s := s) (a := e.2.2)
          have il : gm_len (pm_inc e.2.2 s) = gm_len s := pm_inc_len
          have vi : vs V (pm_inc e.2.2 s) = vs V s := by
            unfold vs
            rw [i2, i3, i4, vT_up (a := 0)]
          have gi : (gm_T (pm_inc e.2.2 s))[e.2.2.toNat]? = some (5 + 10 * e.2.2, v + 1, d) := by
            rw [i2, pm_up_get, if_pos rfl, zg]
            rfl
          have gj : ∀ z ∈ r, z.1 = 5 → (gm_T (pm_inc e.2.2 s))[z.2.2.toNat]? = (gm_T s)[z.2.2.toNat]? := fun z hz z5 => by
            have := hlt z hz z5
            have := (pv_a hwr hz z5).1
            rw [i2, pm_up_get, if_neg (by omega)]
          have hwi : pv_w ((5, e.2.1, e.2.2) :: r, pm_inc e.2.2 s) := by
            refine ⟨fun z hz => ?_, fun z hz z5 => ?_, ⟨fun _ => hlt, hwr.2.2.1⟩, fun x hx => ?_⟩
            · rcases List.mem_cons.mp hz with rfl | hz
              · exact ⟨show (0 : Int) ≤ 5 by decide, show (5 : Int) ≤ 5 by decide⟩
              · exact hwr.1 z hz
            · rcases List.mem_cons.mp hz with rfl | hz
              · exact ⟨_, _, gi⟩
              · obtain ⟨v', d', h'⟩ := hwr.2.1 z hz z5
                exact ⟨v', d', (gj z hz z5).trans h'⟩
            · have hx : x ∈ gm_T (pm_inc e.2.2 s) := hx
              rw [i2] at hx
              obtain ⟨y, y1, y2⟩ := pm_up_mem3 _ _ hx
              have := hw.2.2.2 y y1
              dsimp only at this ⊢
              rw [il, ← y2]
              exact this
          obtain ⟨x1, P, x3, x4, x6, x7⟩ := pv_sgs (V := V) hwi h
          refine ⟨x1, fun hk => ?_⟩
          obtain ⟨x2, x5⟩ := x7 hk
          have k5 := (x2 _ (List.mem_of_getElem? gi)).1
          dsimp only at k5
          rw [show (5 + 10 * e.2.2) / 10 = e.2.2 by omega] at k5
          refine ⟨fun x hx => ?_, ?_⟩
          · obtain ⟨y, y1, y2, y3⟩ := pm_up_mem (gm_T s) e.2.2.toNat hx
            have ky := x2 y (by rw [i2]; exact y1)
            refine ⟨?_, fun q => ?_⟩
            · rw [← y2]
              omega
            · have hne : ∀ z, (gm_T s)[e.2.2.toNat]? = some z → z.1 ≠ x.1 := fun z hz => by
                rw [zg] at hz
                injection hz with hz
                subst hz
                intro q2
                have q2 : 5 + 10 * e.2.2 = x.1 := q2
                have := q e List.mem_cons_self c5
                omega
              have hxm := pm_up_mem2 (gm_T s) e.2.2.toNat hx hne
              refine (x2 x (by rw [i2]; exact hxm)).2 (fun z hz z5 => ?_)
              rcases List.mem_cons.mp hz with rfl | hz
              · exact q e List.mem_cons_self c5
              · exact q z (List.mem_cons_of_mem _ hz) z5
          · have key := x5 ((5, e.2.1, V e.2.2 - v - 1) :: cv V (gm_T s) r) (by rw [wk_ul_c (show (5 : Int) ≠ 2 by decide), wk_ul_c (show (5 : Int) ≠ 2 by decide), hul])
            rw [vi] at key
            rw [if_pos (by omega), key, x3, cv_app, cv_n5 x4, x6]
            have ec : cv V (gm_T (pm_inc e.2.2 s)) ((5, e.2.1, e.2.2) :: r) = (5, e.2.1, V e.2.2 - v - 1) :: cv V (gm_T s) r := by
              show cv1 V (gm_T (pm_inc e.2.2 s)) (5, e.2.1, e.2.2) :: cv V (gm_T (pm_inc e.2.2 s)) r = _
              rw [cv_eq2 (T := gm_T s) (fun z hz z5 => by unfold vl; rw [gj z hz z5])]
              unfold cv1
              dsimp only
              rw [if_pos rfl]
              unfold vl
              rw [gi]
              show (5, e.2.1, V e.2.2 - (v + 1)) :: _ = _
              rw [show V e.2.2 - (v + 1) = V e.2.2 - v - 1 by omega]
            rw [ec]
        · rw [if_neg ch] at h
          injection h with h
          injection h with h3 h4
          subst h3
          subst h4
          refine ⟨hwr, fun hk => ?_⟩
          have kk := (hk _ zm).2 (fun z hz z5 => by
            have := hlt z hz z5
            dsimp only
            omega)
          dsimp only at kk
          rw [show (5 + 10 * e.2.2) / 10 = e.2.2 by omega] at kk
          rw [if_neg (by omega)]
          exact ⟨fun x hx => ⟨(hk x hx).1, fun q => (hk x hx).2 (fun z hz z5 => q z (List.mem_cons_of_mem _ hz) z5)⟩, rfl⟩
      · rw [if_neg c5] at h
        have e1 : cv1 V (gm_T s) e = e := by unfold cv1; rw [if_neg c5]
        rw [e1]
        unfold dm_st
        rw [if_neg c0, if_neg c1, if_neg c5]
        by_cases c2 : e.1 = 2
        · rw [if_pos c2] at h ⊢
          injection h with h
          injection h with h3 h4
          subst h3
          subst h4
          have eT : gm_T ((gm_X s, gm_F s, gm_T s, gm_D s - 1, gm_P s) : gm_S) = gm_T s := gm_T_mk _ _ _ _ _
          rw [eT]
          refine ⟨pv_s hwr eT, fun hk => ⟨okp_cons c5 hk, ?_⟩⟩
          rw [vs_2]
        · rw [if_neg c2] at h ⊢
          by_cases c3 : e.1 = 3
          · rw [if_pos c3] at h ⊢
            injection h with h
            injection h with h3 h4
            subst h3
            subst h4
            rw [gm_mid_T]
            refine ⟨pv_s hwr gm_mid_T, fun hk => ⟨okp_cons c5 hk, ?_⟩⟩
            rw [vs_mid]
          · rw [if_neg c3] at h ⊢
            injection h with h
            injection h with h3 h4
            subst h3
            subst h4
            have e4 : e.1 = 4 := by
              have := hw.1 e List.mem_cons_self
              omega
            rw [vs_tu]
            unfold gm_tu
            have hal := hI.2.2.2.2.1
            dsimp only at hal
            cases hP : gm_P s with
            | nil =>
              exact ⟨hwr, fun hk => ⟨okp_cons c5 hk, rfl⟩⟩
            | cons p q =>
              rw [hP] at hal
              dsimp only
              have eR : gm_T ((gm_X s, gm_F s, gm_rot p.1 p.2 (gm_T s), gm_D s, q) : gm_S) = gm_rot p.1 p.2 (gm_T s) := gm_T_mk _ _ _ _ _
              rw [eR]
              obtain ⟨x, y, z⟩ := e
              have e4 : x = 4 := e4
              subst e4
              have hal : pm_al ((4, y, z) :: r) ((p.1 : Int) :: pm_bg q) := hal
              rw [pm_al_4] at hal
              have gr : ∀ w ∈ r, w.1 = 5 → (gm_rot p.1 p.2 (gm_T s))[w.2.2.toNat]? = (gm_T s)[w.2.2.toNat]? := fun w hw2 w5 => by
                have := hal.1 w hw2 w5
                have := (pv_a hwr hw2 w5).1
                exact rot_lt (by omega)
              refine ⟨⟨hwr.1, fun w hw2 w5 => ?_, hwr.2.2.1, fun x hx => ?_⟩, fun hk => ⟨okp_cons c5 (fun x hx => hk x (mem_rot hx)), ?_⟩⟩
              · obtain ⟨v', d', h'⟩ := hwr.2.1 w hw2 w5
                refine ⟨v', d', ?_⟩
                dsimp only
                rw [gm_T_mk]
                exact (gr w hw2 w5).trans h'
              · dsimp only at hx ⊢
                rw [gm_T_mk] at hx
                have := hwr.2.2.2 x (mem_rot' hx)
                unfold gm_len at this ⊢
                rw [gm_T_mk, gm_rot_len]
                exact this
              · rw [cv_eq2 (T := gm_T s) (T' := gm_rot p.1 p.2 (gm_T s)) (fun w hw2 w5 => by unfold vl; rw [gr w hw2 w5])]
/-- all of it -/
theorem pv_to {s' : gm_S} (hV : vo V s') : ∀ (n : Nat) (c : gm_C), pm_I c → pv_w c → pw_to (pm_st g E 0) n c ([], s') → okp V c.1 (gm_T c.2) ∧ pw_to (dm_st g V 0) n (cv V (gm_T c.2) c.1, vs V c.2) ([], vs V s') := by
  intro n
  induction n with
  | zero =>
    intro c _ _ h
    have h : c = ([], s') := h
    subst h
    exact ⟨fun x hx => ⟨Int.le_of_eq (hV x hx).symm, fun _ => hV x hx⟩, rfl⟩
  | succ n ih =>
    intro c hI hw h
    obtain ⟨e, r, c1, a1, a2, a3⟩ := h
    obtain ⟨B, s⟩ := c
    have a1 : B = e :: r := a1
    subst a1
    have hc := hw.1 e List.mem_cons_self
    have hI1 := pm_st_I (by omega) hI a2
    obtain ⟨hw1, key⟩ := pv_st (V := V) hI hw (show pm_st g E 0 e r s = some (c1.1, c1.2) from a2)
    obtain ⟨i1, i2⟩ := ih c1 hI1 hw1 a3
    obtain ⟨k2, k3⟩ := key i1
    exact ⟨k2, cv1 V (gm_T s) e, cv V (gm_T s) r, _, rfl, k3, i2⟩
end VP2
/-! the replay with other values of numbers and names -/
/-- the values of T are V's, but for numbers and names -/
def vo2 (V : Int → Int) (s : gm_S) : Prop := ∀ x ∈ gm_T s, x.1 % 10 ≠ 2 → x.1 % 10 ≠ 3 → V (x.1 / 10) = x.2.1
section VW
variable {V V' : Int → Int} {g : wk_g} {s s1 : gm_S} {r r1 : List wk_E}
theorem vo2_c {k v : Int} {t : gm_S} (hk : 0 ≤ k ∧ k < 10) (k2 : k ≠ 2) (k3 : k ≠ 3) (h : gm_c k v s = some t) (hV : vo2 V t) : V (gm_len s) = v := by
  obtain ⟨-, -, t1, -, -⟩ := gm_c_t h
  have := hV (k + 10 * ((gm_T s).length : Int), v, gm_D s) (by rw [t1]; exact List.mem_append_right _ List.mem_cons_self)
  dsimp only at this
  rw [show (k + 10 * ((gm_T s).length : Int)) / 10 = ((gm_T s).length : Int) by omega] at this
  exact this (by omega) (by omega)
theorem dw_sg {u : Int} (h : dm_sg 0 g V u r s = some (r1, s1)) (hV : vo2 V' s1) : dm_sg 0 g V' u r (vs V' s) = some (r1, vs V' s1) ∧ ∀ x ∈ gm_T s, x ∈ gm_T s1 := by
  unfold dm_sg at h ⊢
  by_cases c9 : g 119 u.toNat = 9
  · rw [if_pos c9] at h ⊢
    unfold pm_en at h ⊢
    by_cases cu : 12 ≤ 0 + wk_ul r
    · rw [if_pos cu] at h
      cases h
    · rw [if_neg cu] at h ⊢
      obtain ⟨t, h1, h2⟩ := Option.map_eq_some_iff.mp h
      injection h2 with h3 h4
      subst h3
      subst h4
      have hVt : vo2 V' t := fun x hx => hV x (by rw [gm_d_T]; exact hx)
      have hv := vo2_c (by decide) (by decide) (by decide) h1 hVt
      have := vs_c (V := V') (s := s) (by decide) h1 rfl rfl rfl
      rw [hv] at this
      rw [this, Option.map_some, vs_d]
      refine ⟨rfl, fun x hx => ?_⟩
      rw [gm_d_T]
      exact gm_c_mem h1 hx
  · rw [if_neg c9] at h ⊢
    by_cases c10 : g 119 u.toNat = 10
    · rw [if_pos c10] at h ⊢
      injection h with h
      injection h with h1 h2
      subst h1
      subst h2
      exact ⟨rfl, fun x hx => hx⟩
    · rw [if_neg c10] at h ⊢
      obtain ⟨t, h1, h2⟩ := Option.map_eq_some_iff.mp h
      injection h2 with h3 h4
      subst h3
      subst h4
      unfold dm_lf at h1 ⊢
      by_cases c1 : g 119 u.toNat = 1
      · rw [if_pos c1] at h1 ⊢
        rw [vs_len, vs_c (V := V') (s := s) (by decide) h1 rfl rfl rfl]
        exact ⟨rfl, fun x hx => gm_c_mem h1 hx⟩
      · rw [if_neg c1] at h1 ⊢
        by_cases c2 : g 119 u.toNat = 2
        · rw [if_pos c2] at h1 ⊢
          rw [vs_len, vs_c (V := V') (s := s) (by decide) h1 rfl rfl rfl]
          exact ⟨rfl, fun x hx => gm_c_mem h1 hx⟩
        · rw [if_neg c2] at h1 ⊢
          injection h1 with h1
          subst h1
          exact ⟨rfl, fun x hx => hx⟩
theorem dw_st {e : wk_E} (h : dm_st g V 0 e r s = some (r1, s1)) (hV : vo2 V' s1) : dm_st g V' 0 e r (vs V' s) = some (r1, vs V' s1) ∧ ∀ x ∈ gm_T s, x ∈ gm_T s1 := by
  unfold dm_st at h ⊢
  by_cases c0 : e.1 = 0
  · rw [if_pos c0] at h ⊢
    rw [vs_op]
    have To : gm_T (gm_op e.2.2 s) = gm_T s := gm_op_t
    rw [← To]
    generalize gm_op e.2.2 s = so at h ⊢
    unfold dm_u at h ⊢
    by_cases c1 : g 122 e.2.1.toNat = 1
    · rw [if_pos c1] at h ⊢
      obtain ⟨t, h1, h2⟩ := Option.map_eq_some_iff.mp h
      injection h2 with h3 h4
      subst h3
      subst h4
      have hVt : vo2 V' t := fun x hx => hV x (by rw [gm_d_T]; exact hx)
      have hv := vo2_c (by decide) (by decide) (by decide) h1 hVt
      have := vs_c (V := V') (s := so) (by decide) h1 rfl rfl rfl
      rw [vs_len, this, Option.map_some, vs_d, hv]
      refine ⟨rfl, fun x hx => ?_⟩
      rw [gm_d_T]
      exact gm_c_mem h1 hx
    · rw [if_neg c1] at h ⊢
      by_cases c2 : g 122 e.2.1.toNat = 2
      · rw [if_pos c2] at h ⊢
        obtain ⟨t, h1, h2⟩ := Option.bind_eq_some_iff.mp h
        have hc := vs_c (V := V') (s := so) (by decide) h1 rfl rfl rfl
        have mem : ∀ x ∈ gm_T so, x ∈ gm_T (gm_d t) := fun x hx => by
          rw [gm_d_T]
          exact gm_c_mem h1 hx
        by_cases cn : 0 < V (gm_len so)
        · rw [if_pos cn] at h2
          obtain ⟨i1, i2⟩ := dw_sg h2 hV
          have hVt : vo2 V' t := fun x hx => hV x (i2 x (by rw [gm_d_T]; exact hx))
          have hv := vo2_c (by decide) (by decide) (by decide) h1 hVt
          rw [vs_len, hc, Option.bind_some, hv, if_pos cn, vs_d]
          exact ⟨i1, fun x hx => i2 x (mem x hx)⟩
        · rw [if_neg cn] at h2
          injection h2 with h2
          injection h2 with h3 h4
          subst h3
          subst h4
          have hVt : vo2 V' t := fun x hx => hV x (by rw [gm_d_T]; exact hx)
          have hv := vo2_c (by decide) (by decide) (by decide) h1 hVt
          rw [vs_len, hc, Option.bind_some, hv, if_neg cn, vs_d]
          exact ⟨rfl, mem⟩
      · rw [if_neg c2] at h ⊢
        exact dw_sg h hV
  · rw [if_neg c0] at h ⊢
    by_cases c1 : e.1 = 1
    · rw [if_pos c1] at h ⊢
      unfold dm_fo at h ⊢
      by_cases cf : 1 < g 130 e.2.1.toNat
      · rw [if_pos cf] at h ⊢
        by_cases cb : 0 ≤ V (gm_len s) ∧ V (gm_len s) < g 130 e.2.1.toNat
        · rw [if_pos cb] at h
          obtain ⟨t, h1, h2⟩ := Option.map_eq_some_iff.mp h
          injection h2 with h3 h4
          subst h3
          subst h4
          have hVt : vo2 V' t := fun x hx => hV x (by rw [gm_d_T]; exact hx)
          have hv := vo2_c (by decide) (by decide) (by decide) h1 hVt
          have := vs_c (V := V') (s := s) (by decide) h1 rfl rfl rfl
          rw [hv] at this
          rw [vs_len, hv, if_pos cb, this, Option.map_some, vs_d]
          refine ⟨rfl, fun x hx => ?_⟩
          rw [gm_d_T]
          exact gm_c_mem h1 hx
        · rw [if_neg cb] at h
          cases h
      · rw [if_neg cf] at h ⊢
        injection h with h
        injection h with h3 h4
        subst h3
        subst h4
        exact ⟨rfl, fun x hx => hx⟩
    · rw [if_neg c1] at h ⊢
      by_cases c5 : e.1 = 5
      · rw [if_pos c5] at h ⊢
        unfold dm_ag at h ⊢
        by_cases ca : 0 < e.2.2
        · rw [if_pos ca] at h ⊢
          exact dw_sg h hV
        · rw [if_neg ca] at h ⊢
          injection h with h
          injection h with h3 h4
          subst h3
          subst h4
          exact ⟨rfl, fun x hx => hx⟩
      · rw [if_neg c5] at h ⊢
        by_cases c2 : e.1 = 2
        · rw [if_pos c2] at h ⊢
          injection h with h
          injection h with h3 h4
          subst h3
          subst h4
          rw [vs_2]
          exact ⟨rfl, fun x hx => hx⟩
        · rw [if_neg c2] at h ⊢
          by_cases c3 : e.1 = 3
          · rw [if_pos c3] at h ⊢
            injection h with h
            injection h with h3 h4
            subst h3
            subst h4
            rw [vs_mid]
            exact ⟨rfl, fun x hx => by rw [gm_mid_T]; exact hx⟩
          · rw [if_neg c3] at h ⊢
            injection h with h
            injection h with h3 h4
            subst h3
            subst h4
            rw [vs_tu]
            exact ⟨rfl, fun x hx => gm_tu_mem hx⟩
theorem dw_to {B' : List wk_E} {s' : gm_S} (hV : vo2 V' s') : ∀ (n : Nat) (c : gm_C), pw_to (dm_st g V 0) n c (B', s') → pw_to (dm_st g V' 0) n (c.1, vs V' c.2) (B', vs V' s') ∧ ∀ x ∈ gm_T c.2, x ∈ gm_T s' := by
  intro n
  induction n with
  | zero =>
    intro c h
    have h : c = (B', s') := h
    subst h
    exact ⟨rfl, fun x hx => hx⟩
  | succ n ih =>
    intro c h
    obtain ⟨e, r, c1, a1, a2, a3⟩ := h
    obtain ⟨i1, i2⟩ := ih c1 a3
    have hV1 : vo2 V' c1.2 := fun x hx => hV x (i2 x hx)
    obtain ⟨j1, j2⟩ := dw_st a2 hV1
    refine ⟨⟨e, r, (c1.1, vs V' c1.2), a1, j1, i1⟩, fun x hx => i2 x (j2 x hx)⟩
end VW
/-! trees that are replayed -/
def tr_0 (g : wk_g) : gm_C := ([(1, g 114 0, 0), (2, 1, 0)], (0, 0, [(1, 0, 0)], 1, []))
/-- T is the tree that its own values give, in fewer turns than there are -/
def tr_R (g : wk_g) (V : Int → Int) (T : List (Int × Int × Int)) : Prop := (∃ n s', n < 40000 ∧ pw_to (dm_st g V 0) n (tr_0 g) ([], s') ∧ gm_T s' = T) ∧ ∀ x ∈ T, V (x.1 / 10) = x.2.1
section TRR
variable {V : Int → Int} {g : wk_g}
theorem vs_0 {x : Int64} {fu : Int} (h : V 0 = 0) : vs V ((x, fu, [(1, 0, 0)], 1, []) : gm_S) = (0, 0, [(1, 0, 0)], 1, []) := by
  unfold vs
  simp only [gm_T_mk, gm_D_mk, gm_P_mk]
  show ((0, 0, [(1, V (1 / 10), 0)], 1, []) : gm_S) = _
  rw [show (1 : Int) / 10 = 0 by decide, h]
theorem tr_grow {kw : Int → Bool} {Y : wk_Y} (hL : wk_L g Y) (h3 : ∀ f, 0 ≤ f → f < wk_f Y → g 130 f.toNat ≤ 10000) (hr : wk_Lrule Y (g 114 0)) {x : Int64} {fu : Int} {s' : gm_S} (hl : gm_len s' ≤ 100) (hV : vo V s') {n : Nat} (h : gm_to g kw n (gr_c0 g x fu) ([], s')) : tr_R g V (gm_T s') := by
  have hK0 : gm_K Y (gr_c0 g x fu).1 := ⟨gm_k_1 hr.1 hr.2.1 hr.2.2, gm_k_o (by decide) (by decide) (by decide), trivial⟩
  obtain ⟨i1, i2⟩ := gv_to hL h3 hV n _ hK0 h
  obtain ⟨-, p2, p3⟩ := gm_to_pot hL gm_vbt h3 n _ hK0 h
  have h0 : V 0 = 0 := hV (1, 0, 0) (i2 _ (by unfold gr_c0; dsimp only; rw [gm_T_mk]; exact List.mem_cons_self))
  refine ⟨⟨n, vs V s', ?_, ?_, ?_⟩, hV⟩
  · have e0 : gm_len (gr_c0 g x fu).2 = 1 := by
      unfold gr_c0 gm_len
      rw [gm_T_mk]
      rfl
    have ep : gm_pot Y (gr_c0 g x fu).1 ≤ 182 := by
      show gm_e1 Y (1, g 114 0, 0) + (gm_e1 Y (2, 1, 0) + 0) ≤ 182
      rw [gm_e_1, gm_e_o (by decide) (by decide) (by decide)]
      have := hr.2.2
      omega
    dsimp only at p2 p3
    have : gm_pot Y ([] : List wk_E) = 0 := rfl
    omega
  · have e : vs V (gr_c0 g x fu).2 = (0, 0, [(1, 0, 0)], 1, []) := vs_0 h0
    rw [e] at i1
    exact i1
  · rw [vs_T, vT_id hV]
theorem tr_parse {E : pm_E} {Y : wk_Y} {pf pa : Int → Int → Bool} (hL : wk_L g Y) (hx : pm_x Y) (hH : pm_Hs g Y E pf pa) (hr : wk_Lrule Y (g 114 0)) {s' : gm_S} (hl : gm_len s' ≤ 100) (hF : gm_F s' ≤ 160) (hV : vo V s') (h : pm_RO g E (pc_0 g 0) ([], s')) : tr_R g V (gm_T s') := by
  obtain ⟨c1, n, h1, h2⟩ := h
  rw [pc_0_e] at h1
  injection h1 with h1
  subst h1
  have e0 : gm_len ((0, 0, [(1, 0, 0)], 1, []) : gm_S) = 1 := by unfold gm_len; rw [gm_T_mk]; rfl
  have hI : pm_I (([(1, g 114 0, 0), (2, 1, 0)], (0, 0, [(1, 0, 0)], 1, [])) : gm_C) := by
    unfold pm_I
    dsimp only
    rw [e0]
    simp only [gm_D_mk, gm_P_mk]
    refine ⟨rfl, by decide, by decide, ?_, ?_, fun x hx x5 => ?_⟩
    · rw [gm_fl_o (by omega) (by decide) (by decide), gm_fl_o (by omega) (by decide) (by decide)]
      trivial
    · rw [pm_al_o (by omega) (by decide), pm_al_o (by omega) (by decide)]
      trivial
    · exfalso
      rcases List.mem_cons.mp hx with rfl | hx
      · exact absurd x5 (show (1 : Int) ≠ 5 by decide)
      · rw [List.mem_singleton.mp hx] at x5
        exact absurd x5 (show (2 : Int) ≠ 5 by decide)
  have n5 : ∀ z ∈ ([(1, g 114 0, 0), (2, 1, 0)] : List wk_E), z.1 ≠ 5 := nP2 (by decide) (by decide)
  have hw : pv_w (([(1, g 114 0, 0), (2, 1, 0)], (0, 0, [(1, 0, 0)], 1, [])) : gm_C) := by
    refine ⟨fun e he => ?_, fun e he e5 => absurd e5 (n5 e he), pm_lt_app (r := []) n5 trivial, fun x hx => ?_⟩
    · rcases List.mem_cons.mp he with rfl | he
      · exact ⟨show (0 : Int) ≤ 1 by decide, show (1 : Int) ≤ 5 by decide⟩
      · rw [List.mem_singleton.mp he]
        exact ⟨show (0 : Int) ≤ 2 by decide, show (2 : Int) ≤ 5 by decide⟩
    · dsimp only at hx ⊢
      rw [gm_T_mk] at hx
      rw [e0, List.mem_singleton.mp hx]
      exact ⟨show (0 : Int) ≤ 1 by decide, show (1 : Int) / 10 < 1 by decide⟩
  obtain ⟨k1, k2⟩ := pv_to hV n _ hI hw h2
  dsimp only at k1 k2
  have h0 : V 0 = 0 := (k1 (1, 0, 0) (by rw [gm_T_mk]; exact List.mem_cons_self)).2 (fun z hz z5 => absurd z5 (n5 z hz))
  refine ⟨⟨n, vs V s', ?_, ?_, ?_⟩, hV⟩
  · exact pm_turns hL hx hH hr ⟨e0, gm_F_mk _ _ _ _ _⟩ h2 hl hF (Int.le_refl _)
  · rw [vs_0 h0, cv_n5 n5] at k2
    exact k2
  · rw [vs_T, vT_id hV]
/-- other numbers, other names -/
theorem tr_set {V' : Int → Int} {T : List (Int × Int × Int)} (h : tr_R g V T) (hV : ∀ x ∈ T, x.1 % 10 ≠ 2 → x.1 % 10 ≠ 3 → V' (x.1 / 10) = x.2.1) : tr_R g V' (vT V' T) := by
  obtain ⟨⟨n, s', h1, h2, h3⟩, h4⟩ := h
  subst h3
  obtain ⟨i1, i2⟩ := dw_to (V' := V') hV n _ h2
  have h0 : V' 0 = 0 := hV (1, 0, 0) (i2 _ (by unfold tr_0; dsimp only; rw [gm_T_mk]; exact List.mem_cons_self)) (by decide) (by decide)
  refine ⟨⟨n, vs V' s', h1, ?_, vs_T⟩, fun x hx => ?_⟩
  · have e : vs V' (tr_0 g).2 = (0, 0, [(1, 0, 0)], 1, []) := vs_0 h0
    rw [e] at i1
    exact i1
  · obtain ⟨y, y1, y2⟩ := List.mem_map.mp hx
    rw [← y2]
end TRR
