/-! the reference's tokens, exactly -/
def tq_L (h : sm_H) (k : Nat) : Int := if (mx_b h 118 k).toInt = 0 then -(mi_a h 117 k) else (mx_b h 118 k).toInt
def tq_O (h : sm_H) : Prop := ∀ k : Nat, (k : Int) < mi_f h 13962 → 0 ≤ (mx_b h 118 k).toInt ∧ 0 ≤ mi_a h 117 k
theorem tx_decL {V : Int64} {X : Int} (v0 : 0 ≤ V.toInt) (v1 : V.toInt < 10000) (x0 : 48 ≤ X) (x1 : X ≤ 57) : ((((Int64.ofNat 10) * V) + ((Int32.ofInt X).toInt64)) - (Int64.ofNat 48)).toInt = 10 * V.toInt + (X - 48) := by
  have okc : mi_in X := ⟨by omega, by omega⟩
  have e10 : (Int64.ofNat 10).toInt = 10 := rfl
  have e48 : (Int64.ofNat 48).toInt = 48 := rfl
  have em : (Int64.ofNat 10 * V).toInt = 10 * V.toInt := by
    rw [Int64.toInt_mul, e10]
    exact Int.bmod_eq_of_le (by omega) (by omega)
  have ea : (Int64.ofNat 10 * V + (Int32.ofInt X).toInt64).toInt = 10 * V.toInt + X := by
    rw [Int64.toInt_add, em, Int32.toInt_toInt64, mi_ti okc]
    exact Int.bmod_eq_of_le (by omega) (by omega)
  rw [Int64.toInt_sub, ea, e48, Int.bmod_eq_of_le (by omega) (by omega)]
  omega
section TQP
variable {d : Nat} {h : sm_H} {zc : Int}
theorem me_blx (hS : ab_Sh sx_sk h) (oc : mi_in zc) : me_E d 178 0 [some (.inl zc)] [] h (fun w h' => h' = h ∧ ∃ z, w = some (.inl z) ∧ mi_in z ∧ (z ≠ 0 ↔ tx_blk zc)) := by
  refine mt_vbl hS oc ?_ ?_ ?_
  · intro c h1 g1 g2
    exact ⟨me_nil g2, _, rfl, ⟨by decide, by decide⟩, by unfold tx_blk; omega⟩
  · intro c c2 h1 g1 g2
    exact ⟨me_nil g2, _, rfl, ⟨by decide, by decide⟩, by unfold tx_blk; omega⟩
  · intro c c2 h1 g1 g2
    exact ⟨me_nil g2, _, rfl, ⟨by decide, by decide⟩, by unfold tx_blk; omega⟩
theorem me_lox (hS : ab_Sh sx_sk h) (oc : mi_in zc) : me_E d 180 0 [some (.inl zc)] [] h (fun w h' => h' = h ∧ ∃ z, w = some (.inl z) ∧ mi_in z ∧ (z ≠ 0 ↔ tx_low zc)) := by
  refine mt_vlo hS oc ?_ ?_ ?_
  · intro c h1 g1 g2
    exact ⟨me_nil g2, _, rfl, ⟨by decide, by decide⟩, by unfold tx_low; omega⟩
  · intro c c2 h1 g1 g2
    exact ⟨me_nil g2, _, rfl, ⟨by decide, by decide⟩, by unfold tx_low; omega⟩
  · intro c c2 h1 g1 g2
    exact ⟨me_nil g2, _, rfl, ⟨by decide, by decide⟩, by unfold tx_low; omega⟩
theorem me_dix (hS : ab_Sh sx_sk h) (oc : mi_in zc) : me_E d 182 0 [some (.inl zc)] [] h (fun w h' => h' = h ∧ ∃ z, w = some (.inl z) ∧ mi_in z ∧ (z ≠ 0 ↔ tx_dig zc)) := by
  refine mt_vdi hS oc ?_ ?_ ?_
  · intro c h1 g1 g2
    exact ⟨me_nil g2, _, rfl, ⟨by decide, by decide⟩, by unfold tx_dig; omega⟩
  · intro c c2 h1 g1 g2
    exact ⟨me_nil g2, _, rfl, ⟨by decide, by decide⟩, by unfold tx_dig; omega⟩
  · intro c c2 h1 g1 g2
    exact ⟨me_nil g2, _, rfl, ⟨by decide, by decide⟩, by unfold tx_dig; omega⟩
theorem tq_z {x : Int64} : (x = Int64.ofNat 0) ↔ x.toInt = 0 := by
  constructor
  · intro e
    rw [e]
    rfl
  · intro e
    exact Int64.toInt_inj.mp (e.trans (by rfl))
theorem me_sox (hS : ab_Sh sx_sk h) (oc : mi_in zc) (c0 : 0 ≤ zc) (hO : tq_O h) : me_E d 230 0 [some (.inr (.inr 109)), some (.inl zc), none] [] h (fun w h' => h' = h ∧ ∃ z, -1 ≤ z ∧ z < 20 ∧ fx (mi_f h 13962) (tq_L h) (-zc) z ∧ w = some (.inl (if z = -1 then -1 else 3 + z))) := by
  have main : ∀ (N : Nat) (zl : Int), 20 - zl < N → 0 ≤ zl → zl ≤ 20 → (∀ l : Nat, (l : Int) < zl → tq_L h l ≠ -zc) → me_E d 230 2 [some (.inr (.inr 109)), some (.inl zc), some (.inl zl)] [] h (fun w h' => h' = h ∧ ∃ z, -1 ≤ z ∧ z < 20 ∧ fx (mi_f h 13962) (tq_L h) (-zc) z ∧ w = some (.inl (if z = -1 then -1 else 3 + z))) := by
    intro N
    induction N with
    | zero => intro zl hN; omega
    | succ N ih =>
      intro zl hN l0 l1 hno
      have back : ∀ h1, ab_Sh sx_sk h1 → ab_Fr [] h h1 → zl < 20 → tq_L h zl.toNat ≠ -zc → me_E d 230 2 [some (.inr (.inr 109)), some (.inl zc), some (.inl (zl + 1))] [] h1 (fun w h' => h' = h ∧ ∃ z, -1 ≤ z ∧ z < 20 ∧ fx (mi_f h 13962) (tq_L h) (-zc) z ∧ w = some (.inl (if z = -1 then -1 else 3 + z))) := by
        intro h1 g1 g2 c2 nn
        have e := me_nil g2
        subst e
        refine ih (zl + 1) (by omega) (by omega) (by omega) (fun l hl => ?_)
        by_cases e : (l : Int) = zl
        · have : zl.toNat = l := by omega
          rw [← this]
          exact nn
        · exact hno l (by omega)
      refine mt_vsB hS oc ⟨by omega, by omega⟩ ?_ ?_ ?_ ?_
      · intro b c h1 g1 g2
        exact ⟨me_nil g2, -1, by decide, by decide, Or.inr ⟨rfl, fun j hj => hno j (by omega)⟩, by rw [if_pos rfl]⟩
      · intro b c c2
        refine ⟨⟨by omega, by omega⟩, fun h1 g1 g2 => back h1 g1 g2 (by omega) ?_⟩
        have n0 : (mx_b h 118 zl.toNat).toInt ≠ 0 := fun q => gx_cmpn c2 (tq_z.mpr q)
        have := (hO zl.toNat (by omega)).1
        unfold tq_L
        rw [if_neg n0]
        omega
      · intro b c c2 c3
        refine ⟨⟨by omega, by omega⟩, fun h1 g1 g2 => back h1 g1 g2 (by omega) ?_⟩
        have n0 : (mx_b h 118 zl.toNat).toInt = 0 := tq_z.mp (lg_cmp0 c2)
        unfold tq_L
        rw [if_pos n0]
        omega
      · intro b c c2 c3
        refine ⟨⟨by omega, by omega⟩, fun h1 g1 g2 => ?_⟩
        have n0 : (mx_b h 118 zl.toNat).toInt = 0 := tq_z.mp (lg_cmp0 c2)
        refine ⟨me_nil g2, zl, by omega, by omega, Or.inl ⟨l0, c, ?_, hno⟩, by rw [if_neg (by omega)]⟩
        unfold tq_L
        rw [if_pos n0, c3]
  refine mt_vsA hS oc ?_
  intro h1 g1 g2
  have e := me_nil g2
  subst e
  exact main 30 0 (by omega) (by omega) (by omega) (fun l hl => by omega)
theorem me_kox {zw : Int64} (hS : ab_Sh sx_sk h) (w0 : 1 ≤ zw.toInt) (hO : tq_O h) : me_E d 216 0 [some (.inr (.inr 109)), some (.inr (.inl zw)), none, none] [] h (fun w h' => h' = h ∧ ∃ z, -1 ≤ z ∧ z < 20 ∧ fx (mi_f h 13962) (tq_L h) zw.toInt z ∧ w = some (.inl z)) := by
  have main : ∀ (N : Nat) (zl : Int), 20 - zl < N → 0 ≤ zl → zl ≤ 20 → (∀ l : Nat, (l : Int) < zl → tq_L h l ≠ zw.toInt) → me_E d 216 2 [some (.inr (.inr 109)), some (.inr (.inl zw)), none, some (.inl zl)] [] h (fun w h' => h' = h ∧ ∃ z, -1 ≤ z ∧ z < 20 ∧ fx (mi_f h 13962) (tq_L h) zw.toInt z ∧ w = some (.inl z)) := by
    intro N
    induction N with
    | zero => intro zl hN; omega
    | succ N ih =>
      intro zl hN l0 l1 hno
      have back : ∀ h1, ab_Sh sx_sk h1 → ab_Fr [] h h1 → zl < 20 → tq_L h zl.toNat ≠ zw.toInt → me_E d 216 2 [some (.inr (.inr 109)), some (.inr (.inl zw)), none, some (.inl (zl + 1))] [] h1 (fun w h' => h' = h ∧ ∃ z, -1 ≤ z ∧ z < 20 ∧ fx (mi_f h 13962) (tq_L h) zw.toInt z ∧ w = some (.inl z)) := by
        intro h1 g1 g2 c2 nn
        have e := me_nil g2
        subst e
        refine ih (zl + 1) (by omega) (by omega) (by omega) (fun l hl => ?_)
        by_cases e : (l : Int) = zl
        · have : zl.toNat = l := by omega
          rw [← this]
          exact nn
        · exact hno l (by omega)
      refine mt_kwB hS ⟨by omega, by omega⟩ ?_ ?_ ?_ ?_
      · intro b c h1 g1 g2
        exact ⟨me_nil g2, -1, by decide, by decide, Or.inr ⟨rfl, fun j hj => hno j (by omega)⟩, rfl⟩
      · intro b c c2
        refine ⟨⟨by omega, ⟨by omega, by omega⟩⟩, fun h1 g1 g2 => back h1 g1 g2 (by omega) ?_⟩
        have n0 : (mx_b h 118 zl.toNat).toInt = 0 := tq_z.mp (lg_cmp0 c2)
        have := (hO zl.toNat (by omega)).2
        unfold tq_L
        rw [if_pos n0]
        omega
      · intro b c c2 c3
        refine ⟨⟨by omega, ⟨by omega, by omega⟩⟩, fun h1 g1 g2 => back h1 g1 g2 (by omega) ?_⟩
        have n0 : (mx_b h 118 zl.toNat).toInt ≠ 0 := fun q => gx_cmpn c2 (tq_z.mpr q)
        unfold tq_L
        rw [if_neg n0]
        intro q
        exact gx_cmpn c3 (Int64.toInt_inj.mp q)
      · intro b c c2 c3
        refine ⟨by omega, fun h1 g1 g2 => ?_⟩
        have n0 : (mx_b h 118 zl.toNat).toInt ≠ 0 := fun q => gx_cmpn c2 (tq_z.mpr q)
        refine ⟨me_nil g2, zl, by omega, by omega, Or.inl ⟨l0, c, ?_, hno⟩, rfl⟩
        unfold tq_L
        rw [if_neg n0, lg_cmp0 c3]
  refine mt_kwA hS ?_
  intro h1 g1 g2
  have e := me_nil g2
  subst e
  exact main 30 0 (by omega) (by omega) (by omega) (fun l hl => by omega)
end TQP
def tq_T0 (h0 : sm_H) (a k v s e : Int) : Prop := tq_T (mi_f h0 13954) (mi_a h0 111) (mi_f h0 13962) (tq_L h0) a k v s e
def ty_H (h0 hh h : sm_H) : Prop := ab_Sh sx_sk h ∧ ab_Fr tk_W h0 h ∧ mi_f h 14011 = mi_f hh 14011 ∧ (∀ i, mi_a h 152 i = mi_a hh 152 i) ∧ ∀ i, i ≠ (mi_f hh 14011).toNat → mx_b h 154 i = mx_b hh 154 i
def ty_C (d : Nat) (h0 hh : sm_H) (a zk : Int) (Q : Option mi_V → sm_H → Prop) : Prop := ∀ (ze : Int) (q2 q3 q4 q5 q6 q7 : Option mi_V) (h1 : sm_H), zk < ze → ze ≤ mi_f h0 13954 → (∀ v, q2 = some v → mi_ok v) → (∀ v, q3 = some v → mi_ok v) → (∀ v, q4 = some v → mi_ok v) → (∀ v, q5 = some v → mi_ok v) → (∀ v, q6 = some v → mi_ok v) → (∀ v, q7 = some v → mi_ok v) → ab_Sh sx_sk h1 → ab_Fr tk_W h0 h1 → mi_f h1 14011 = mi_f hh 14011 + 1 → (∀ i, i ≠ (mi_f hh 14011).toNat → mi_a h1 152 i = mi_a hh 152 i) → (∀ i, i ≠ (mi_f hh 14011).toNat → mx_b h1 154 i = mx_b hh 154 i) → 0 ≤ (mx_b h1 154 (mi_f hh 14011).toNat).toInt → (mx_b h1 154 (mi_f hh 14011).toNat).toInt < 1073741824 → tq_T0 h0 a (mi_a h1 152 (mi_f hh 14011).toNat) (mx_b h1 154 (mi_f hh 14011).toNat).toInt zk ze → me_E (d + 1) 229 7 [some (.inr (.inr 109)), some (.inl ze), q2, q3, q4, q5, q6, q7] [] h1 Q
section TQM
variable {d : Nat} {h0 hh : sm_H} {a zk : Int} {Q : Option mi_V → sm_H → Prop}
theorem ty_fin {ze K : Int} {q2 q3 q4 q5 q6 q7 : Option mi_V} {h h1 : sm_H} (hC : ty_C d h0 hh a zk Q) (hH : ty_H h0 hh h) (e0 : zk < ze) (e1 : ze ≤ mi_f h0 13954) (o2 : ∀ v, q2 = some v → mi_ok v) (o3 : ∀ v, q3 = some v → mi_ok v) (o4 : ∀ v, q4 = some v → mi_ok v) (o5 : ∀ v, q5 = some v → mi_ok v) (o6 : ∀ v, q6 = some v → mi_ok v) (o7 : ∀ v, q7 = some v → mi_ok v) (g1 : ab_Sh sx_sk h1) (g2 : mi_f h1 14011 = mi_f h 14011 + 1) (g3 : ∀ i, mi_a h1 152 i = if i = (mi_f h 14011).toNat then K else mi_a h 152 i) (g4 : ab_Fr [(14011, 14012), (19456, 19457)] h h1) (v0 : 0 ≤ (mx_b h 154 (mi_f hh 14011).toNat).toInt) (v1 : (mx_b h 154 (mi_f hh 14011).toNat).toInt < 1073741824) (hT : tq_T0 h0 a K (mx_b h 154 (mi_f hh 14011).toNat).toInt zk ze) : me_E (d + 1) 229 7 [some (.inr (.inr 109)), some (.inl ze), q2, q3, q4, q5, q6, q7] [] h1 Q := by
  obtain ⟨x1, x2, x3, x4, x5⟩ := hH
  have eb : ∀ i, mx_b h1 154 i = mx_b h 154 i := fun i => me_b (k := 154) g4 x1 rfl rfl
  refine hC ze _ _ _ _ _ _ h1 e0 e1 o2 o3 o4 o5 o6 o7 g1 (x2.trans (g4.wide (fun c hc => ab_swr_ok (by decide) hc))) (by omega) (fun i hi => ?_) (fun i hi => ?_) ?_ ?_ ?_
  · rw [g3, if_neg (by rw [x3]; exact hi), x4]
  · rw [eb]
    exact x5 i hi
  · rw [eb]
    exact v0
  · rw [eb]
    exact v1
  · rw [eb, g3, if_pos (by rw [x3])]
    exact hT
theorem ty_step {h h1 : sm_H} {x : Int64} (hH : ty_H h0 hh h) (g1 : ab_Sh sx_sk h1) (g2 : ∀ i, mx_b h1 154 i = if i = (mi_f h 14011).toNat then x else mx_b h 154 i) (g3 : ab_Fr [(19712, 19713)] h h1) : ty_H h0 hh h1 ∧ mx_b h1 154 (mi_f hh 14011).toNat = x := by
  obtain ⟨x1, x2, x3, x4, x5⟩ := hH
  refine ⟨⟨g1, x2.trans (g3.wide (fun c hc => ab_swr_ok (by decide) hc)), (me_f (c := 14011) g3 x1 rfl rfl).trans x3, fun i => (me_a (k := 152) g3 x1 rfl rfl).trans (x4 i), fun i hi => ?_⟩, ?_⟩
  · rw [g2, if_neg (by rw [x3]; exact hi)]
    exact x5 i hi
  · rw [g2, if_pos (by rw [x3])]
theorem ty135 {zc zl zd ze : Int} (hC : ty_C d h0 hh a zk Q) (hS0 : ab_Sh sx_sk h0) (k0 : 0 ≤ zk) (hb : tx_end tx_blk (mi_f h0 13954) (mi_a h0 111) a zk) (t1 : mi_f hh 14011 ≤ zk) (e0 : zk < ze) (e1 : ze ≤ mi_f h0 13954) (he : tx_end tx_dig (mi_f h0 13954) (mi_a h0 111) zk ze) (oc : mi_in zc) (ol : mi_in zl) (od : mi_in zd) : ∀ (N : Nat) (zj : Int) (h : sm_H), ze - zj < N → zk ≤ zj → zj ≤ ze → ty_H h0 hh h → (5 ≤ ze - zk → zj = zk ∧ (mx_b h 154 (mi_f hh 14011).toNat).toInt = 0) → (ze - zk < 5 → (mx_b h 154 (mi_f hh 14011).toNat).toInt = tx_dec (mi_a h0 111) zk (zj - zk).toNat) → me_E (d + 1) 229 135 [some (.inr (.inr 109)), some (.inl zk), some (.inl zc), some (.inl zl), some (.inl zd), some (.inl ze), some (.inl (ze - zk)), some (.inl zj)] [] h Q := by
  have e2 := (me_fb (c := 13954) hS0 rfl).2
  have hdig := (he.2.1 zk (Int.le_refl _) e0).2
  intro N
  induction N with
  | zero => intro zj h hN _ _; exfalso; omega
  | succ N ih =>
    intro zj h hN j0 j1 hH hA hB
    have hS := hH.1
    have x3 := hH.2.2.1
    have ok : mi_in zk := ⟨by omega, by omega⟩
    have oe : mi_in ze := ⟨by omega, by omega⟩
    have oj : mi_in zj := ⟨by omega, by omega⟩
    have on : mi_in (ze - zk) := ⟨by omega, by omega⟩
    refine mt_tk9 hS ok oc ol od oe on oj ?_ ?_ ?_ ?_
    · intro b c1 c2
      exfalso
      have := hA (by omega)
      omega
    · intro b c1 c2
      have ej : zj = ze := by omega
      subst ej
      have hv := hB (by omega)
      have vb := tx_dec_b (c := mi_a h0 111) (k := zk) (zj - zk).toNat (fun j a1 a2 => (he.2.1 j a1 (by omega)).2)
      have p4 : (10 : Int) ^ (zj - zk).toNat ≤ 10 ^ 4 := by
        have : (10 : Nat) ^ (zj - zk).toNat ≤ 10 ^ 4 := Nat.pow_le_pow_right (by decide) (by omega)
        exact_mod_cast this
      have e44 : (10 : Int) ^ 4 = 10000 := by decide
      refine ⟨by omega, fun h1 g1 g2 g3 g4 => ?_⟩
      exact ty_fin hC hH e0 e1 (me_oi oc) (me_oi ol) (me_oi od) (me_oi oe) (me_oi on) (me_oi oj) g1 g2 g3 g4 (by omega) (by omega) ⟨hb, Or.inr ⟨by omega, Or.inl ⟨hdig, he, Or.inl ⟨by omega, rfl, hv⟩⟩⟩⟩
    · intro b c1 c2
      have hv := (hA (by omega)).2
      refine ⟨by omega, fun h1 g1 g2 g3 g4 => ?_⟩
      exact ty_fin hC hH e0 e1 (me_oi oc) (me_oi ol) (me_oi od) (me_oi oe) (me_oi on) (me_oi oj) g1 g2 g3 g4 (by omega) (by omega) ⟨hb, Or.inr ⟨by omega, Or.inl ⟨hdig, he, Or.inr ⟨by omega, rfl⟩⟩⟩⟩
    · intro b c1 c2
      have hv := hB c2
      have hz := (he.2.1 zj j0 c1).2
      have vb := tx_dec_b (c := mi_a h0 111) (k := zk) (zj - zk).toNat (fun j a1 a2 => (he.2.1 j a1 (by omega)).2)
      have p4 : (10 : Int) ^ (zj - zk).toNat ≤ 10 ^ 4 := by
        have : (10 : Nat) ^ (zj - zk).toNat ≤ 10 ^ 4 := Nat.pow_le_pow_right (by decide) (by omega)
        exact_mod_cast this
      have e44 : (10 : Int) ^ 4 = 10000 := by decide
      have ea : mi_a h 111 zj.toNat = mi_a h0 111 zj.toNat := me_a (k := 111) hH.2.1 hS0 rfl rfl
      refine ⟨by omega, fun h1 g1 g2 g3 => ?_⟩
      obtain ⟨s1, s2⟩ := ty_step hH g1 g2 g3
      refine ih (zj + 1) h1 (by omega) (by omega) (by omega) s1 (fun q => by omega) (fun _ => ?_)
      have en : (zj + 1 - zk).toNat = (zj - zk).toNat + 1 := by omega
      have ez : (zk + ((zj - zk).toNat : Int)).toNat = zj.toNat := by omega
      rw [s2, ea, x3, tx_decL (by omega) (by omega) hz.1 hz.2, en, hv]
      show _ = 10 * tx_dec (mi_a h0 111) zk (zj - zk).toNat + (mi_a h0 111 (zk + ((zj - zk).toNat : Int)).toNat - 48)
      rw [ez]
theorem tx_code_1 {c : Nat → Int} {k : Int} {m : Nat} (h : ∀ j, k ≤ j → j < k + ((m + 1 : Nat) : Int) → tx_low (c j.toNat)) : 1 ≤ tx_code c k (m + 1) := by
  have h1 := (h k (Int.le_refl _) (by omega)).1
  have h2 := (tx_code_b (c := c) m (k + 1) (fun j a b => h j (by omega) (by omega))).1
  show 1 ≤ (c k.toNat - 96) + 32 * tx_code c (k + 1) m
  omega
theorem ty222 {zc zl zd ze : Int} (hC : ty_C d h0 hh a zk Q) (hS0 : ab_Sh sx_sk h0) (hO : tq_O h0) (k0 : 0 ≤ zk) (hb : tx_end tx_blk (mi_f h0 13954) (mi_a h0 111) a zk) (t1 : mi_f hh 14011 ≤ zk) (e0 : zk < ze) (e1 : ze ≤ mi_f h0 13954) (he : tx_end tx_low (mi_f h0 13954) (mi_a h0 111) zk ze) (oc : mi_in zc) (ol : mi_in zl) (od : mi_in zd) : ∀ (N : Nat) (zj : Int) (h : sm_H), zj - zk + 1 < N → zk - 1 ≤ zj → zj < ze → ty_H h0 hh h → (7 ≤ ze - zk → (mx_b h 154 (mi_f hh 14011).toNat).toInt = 0) → (ze - zk < 7 → (mx_b h 154 (mi_f hh 14011).toNat).toInt = tx_code (mi_a h0 111) (zj + 1) (ze - 1 - zj).toNat) → me_E (d + 1) 229 222 [some (.inr (.inr 109)), some (.inl zk), some (.inl zc), some (.inl zl), some (.inl zd), some (.inl ze), some (.inl (ze - zk)), some (.inl zj)] [] h Q := by
  have e2 := (me_fb (c := 13954) hS0 rfl).2
  have hlow := (he.2.1 zk (Int.le_refl _) e0).2
  intro N
  induction N with
  | zero => intro zj h hN _ _; exfalso; omega
  | succ N ih =>
    intro zj h hN j0 j1 hH hA hB
    have hS := hH.1
    have x3 := hH.2.2.1
    have ok : mi_in zk := ⟨by omega, by omega⟩
    have oe : mi_in ze := ⟨by omega, by omega⟩
    have oj : mi_in zj := ⟨by omega, by omega⟩
    have on : mi_in (ze - zk) := ⟨by omega, by omega⟩
    have o1 : mi_in (-1) := ⟨by decide, by decide⟩
    have long : 7 ≤ ze - zk → ∀ h1, ab_Sh sx_sk h1 → mi_f h1 14011 = mi_f h 14011 + 1 → (∀ i, mi_a h1 152 i = if i = (mi_f h 14011).toNat then -1 else mi_a h 152 i) → ab_Fr [(14011, 14012), (19456, 19457)] h h1 → me_E (d + 1) 229 7 [some (.inr (.inr 109)), some (.inl ze), some (.inl zc), some (.inl zl), some (.inl zd), some (.inl ze), some (.inl (ze - zk)), some (.inl (-1))] [] h1 Q := fun c h1 g1 g2 g3 g4 => by
      have hv := hA c
      exact ty_fin hC hH e0 e1 (me_oi oc) (me_oi ol) (me_oi od) (me_oi oe) (me_oi on) (me_oi o1) g1 g2 g3 g4 (by omega) (by omega) ⟨hb, Or.inr ⟨by omega, Or.inr (Or.inl ⟨hlow, he, Or.inr ⟨by omega, rfl⟩⟩)⟩⟩
    refine mt_tk10 hS ok oc ol od oe on oj ?_ ?_ ?_ ?_ ?_ ?_
    · intro b c1 c2 c3
      exfalso; omega
    · intro b c1 c2 c3
      exact ⟨by omega, long c2⟩
    · intro b c1 c2
      have ej : zj = zk - 1 := by omega
      subst ej
      have hv := hB c2
      rw [show zk - 1 + 1 = zk by omega, show ze - 1 - (zk - 1) = ze - zk by omega] at hv
      have em : (ze - zk).toNat = ((ze - zk).toNat - 1) + 1 := by omega
      have v1 : 1 ≤ tx_code (mi_a h0 111) zk (ze - zk).toNat := by
        rw [em]
        exact tx_code_1 (fun j a1 a2 => (he.2.1 j a1 (by omega)).2)
      have vb := tx_code_b (c := mi_a h0 111) (ze - zk).toNat zk (fun j a1 a2 => (he.2.1 j a1 (by omega)).2)
      have p6 : (32 : Int) ^ (ze - zk).toNat ≤ 32 ^ 6 := by
        have : (32 : Nat) ^ (ze - zk).toNat ≤ 32 ^ 6 := Nat.pow_le_pow_right (by decide) (by omega)
        exact_mod_cast this
      have e36 : (32 : Int) ^ 6 = 1073741824 := by decide
      refine ⟨by omega, fun h1 g1 g2 => ?_⟩
      have e3 := me_nil g2
      subst e3
      have f62 : mi_f h1 13962 = mi_f h0 13962 := me_f (c := 13962) hH.2.1 hS0 rfl rfl
      have fL : ∀ i, tq_L h1 i = tq_L h0 i := fun i => by
        unfold tq_L
        rw [me_b (k := 118) hH.2.1 hS0 rfl rfl, me_a (k := 117) hH.2.1 hS0 rfl rfl]
      have hO1 : tq_O h1 := fun k hk => by
        rw [me_b (k := 118) hH.2.1 hS0 rfl rfl, me_a (k := 117) hH.2.1 hS0 rfl rfl]
        exact hO k (by omega)
      rw [x3]
      refine ⟨_, me_kox g1 (by omega) hO1, fun w h2 ow hq => ?_⟩
      obtain ⟨rfl, z, z0, z1, hz, rfl⟩ := hq
      rw [f62, show tq_L h2 = tq_L h0 from funext fL, hv] at hz
      have oz : mi_in z := ⟨by omega, by omega⟩
      refine mt_tk11 g1 ok oc ol od oe on oj oz ?_ ?_ ?_
      · intro b c3 c4
        refine ⟨by omega, fun h3 r1 r2 r3 r4 => ?_⟩
        refine ty_fin hC hH e0 e1 (me_oi oc) (me_oi ol) (me_oi od) (me_oi oe) (me_oi on) (me_oi oz) r1 r2 r3 r4 (by omega) (by omega) ⟨hb, Or.inr ⟨by omega, Or.inr (Or.inl ⟨hlow, he, Or.inl ⟨by omega, hv, z, ?_, ?_⟩⟩)⟩⟩
        · rw [hv]
          exact hz
        · rw [if_pos (by omega)]
      · intro b c3 c4
        refine ⟨by omega, fun h3 r1 r2 r3 r4 => ?_⟩
        refine ty_fin hC hH e0 e1 (me_oi oc) (me_oi ol) (me_oi od) (me_oi oe) (me_oi on) (me_oi oz) r1 r2 r3 r4 (by omega) (by omega) ⟨hb, Or.inr ⟨by omega, Or.inr (Or.inl ⟨hlow, he, Or.inl ⟨by omega, hv, z, ?_, ?_⟩⟩)⟩⟩
        · rw [hv]
          exact hz
        · rw [if_neg (by omega)]
      · intro b c3
        exfalso; omega
    · intro b c1 c2 c3
      exfalso; omega
    · intro b c1 c2 c3
      exact ⟨by omega, long c2⟩
    · intro b c1 c2
      have hv := hB c2
      have hz := (he.2.1 zj c1 j1).2
      have vb := tx_code_b (c := mi_a h0 111) (ze - 1 - zj).toNat (zj + 1) (fun j a1 a2 => (he.2.1 j (by omega) (by omega)).2)
      have p5 : (32 : Int) ^ (ze - 1 - zj).toNat ≤ 32 ^ 5 := by
        have : (32 : Nat) ^ (ze - 1 - zj).toNat ≤ 32 ^ 5 := Nat.pow_le_pow_right (by decide) (by omega)
        exact_mod_cast this
      have e35 : (32 : Int) ^ 5 = 33554432 := by decide
      have ea : mi_a h 111 zj.toNat = mi_a h0 111 zj.toNat := me_a (k := 111) hH.2.1 hS0 rfl rfl
      refine ⟨by omega, fun h1 g1 g2 g3 => ?_⟩
      obtain ⟨s1, s2⟩ := ty_step hH g1 g2 g3
      refine ih (zj + -1) h1 (by omega) (by omega) (by omega) s1 (fun q => by omega) (fun _ => ?_)
      have em : (ze - 1 - zj).toNat + 1 = (ze - 1 - (zj - 1)).toNat := by omega
      rw [s2, ea, x3, tx_pack (by omega) (by omega) hz.1 hz.2, hv, show ze - 1 - (zj + -1) = ze - 1 - (zj - 1) by omega, ← em, show zj + -1 + 1 = zj by omega]
      rfl
end TQM
/-! the reference's tokenize, exactly -/
section TQN
variable {d : Nat} {h0 hh : sm_H} {a zk : Int} {Q : Option mi_V → sm_H → Prop}
theorem ty111 {zc zl zd ze : Int} {q6 q7 : Option mi_V} {h : sm_H} (hC : ty_C d h0 hh a zk Q) (hS0 : ab_Sh sx_sk h0) (hO : tq_O h0) (k0 : 0 ≤ zk) (hb : tx_end tx_blk (mi_f h0 13954) (mi_a h0 111) a zk) (t1 : mi_f hh 14011 ≤ zk) (e0 : zk < ze) (e1 : ze ≤ mi_f h0 13954) (hzc : zc = mi_a h0 111 zk.toNat) (c0 : 0 ≤ zc) (dl : zl ≠ 0 ↔ tx_low zc) (dd : zd ≠ 0 ↔ tx_dig zc) (hl : zl ≠ 0 → tx_end tx_low (mi_f h0 13954) (mi_a h0 111) zk ze) (hd : zd ≠ 0 → tx_end tx_dig (mi_f h0 13954) (mi_a h0 111) zk ze) (hn : zl = 0 → zd = 0 → ze = zk + 1) (oc : mi_in zc) (ol : mi_in zl) (od : mi_in zd) (o6 : ∀ v, q6 = some v → mi_ok v) (o7 : ∀ v, q7 = some v → mi_ok v) (hH : ty_H h0 hh h) : me_E (d + 1) 229 111 [some (.inr (.inr 109)), some (.inl zk), some (.inl zc), some (.inl zl), some (.inl zd), some (.inl ze), q6, q7] [] h Q := by
  have e2 := (me_fb (c := 13954) hS0 rfl).2
  have hS := hH.1
  have x3 := hH.2.2.1
  have ok : mi_in zk := ⟨by omega, by omega⟩
  have oe : mi_in ze := ⟨by omega, by omega⟩
  have on : mi_in (ze - zk) := ⟨by omega, by omega⟩
  have z64 : (Int64.ofNat 0).toInt = 0 := rfl
  refine mt_tk8 hS ok oc ol od oe o6 o7 ?_ ?_ ?_
  · intro b c1 c2
    have ez := hn c2 c1
    refine ⟨by omega, fun h1 g1 g2 g3 => ?_⟩
    obtain ⟨s1, s2⟩ := ty_step hH g1 g2 g3
    have f62 : mi_f h1 13962 = mi_f h0 13962 := me_f (c := 13962) s1.2.1 hS0 rfl rfl
    have fL : ∀ i, tq_L h1 i = tq_L h0 i := fun i => by
      unfold tq_L
      rw [me_b (k := 118) s1.2.1 hS0 rfl rfl, me_a (k := 117) s1.2.1 hS0 rfl rfl]
    have hO1 : tq_O h1 := fun k hk => by
      rw [me_b (k := 118) s1.2.1 hS0 rfl rfl, me_a (k := 117) s1.2.1 hS0 rfl rfl]
      exact hO k (by omega)
    refine ⟨_, me_sox g1 oc c0 hO1, fun w h2 ow hq => ?_⟩
    obtain ⟨rfl, z, z0, z1, hz, rfl⟩ := hq
    rw [f62, show tq_L h2 = tq_L h0 from funext fL] at hz
    have e11 : mi_f h 14011 = mi_f h2 14011 := x3.trans s1.2.2.1.symm
    have zb : -1 ≤ (if z = -1 then (-1 : Int) else 3 + z) ∧ (if z = -1 then (-1 : Int) else 3 + z) ≤ 22 := by
      by_cases q : z = -1
      · rw [if_pos q]; omega
      · rw [if_neg q]; omega
    have bt := me_fb (c := 14011) g1 rfl
    generalize hy : (if z = -1 then (-1 : Int) else 3 + z) = y at zb ⊢
    refine mt_tk12 g1 ok oc ol od oe on ⟨by omega, by omega⟩ ⟨by omega, by omega⟩ o7 ?_
    intro b2
    have s13 := s1.2.2.1
    refine ⟨by omega, fun h3 r1 r2 r3 r4 => ?_⟩
    rw [e11] at r3
    refine ty_fin hC s1 e0 e1 (me_oi oc) (me_oi ol) (me_oi od) (me_oi oe) (me_oi on) o7 r1 r2 r3 r4 (by rw [s2, z64]; omega) (by rw [s2, z64]; omega) ⟨hb, Or.inr ⟨by omega, Or.inr (Or.inr ⟨?_, ?_, ez, z, ?_, hy.symm⟩)⟩⟩
    · rw [← hzc]
      exact fun q => (dd.mpr q) c1
    · rw [← hzc]
      exact fun q => (dl.mpr q) c2
    · rw [← hzc]
      exact hz
  · intro b c1 c2
    refine ⟨by omega, fun h1 g1 g2 g3 => ?_⟩
    obtain ⟨s1, s2⟩ := ty_step hH g1 g2 g3
    refine ty222 hC hS0 hO k0 hb t1 e0 e1 (hl c2) oc ol od 200 (ze - 1) h1 (by omega) (by omega) (by omega) s1 (fun _ => by rw [s2, z64]) (fun _ => ?_)
    rw [s2, z64, show ze - 1 - (ze - 1) = 0 by omega]
    rfl
  · intro b c1
    refine ⟨by omega, fun h1 g1 g2 g3 => ?_⟩
    obtain ⟨s1, s2⟩ := ty_step hH g1 g2 g3
    refine ty135 hC hS0 k0 hb t1 e0 e1 (hd c1) oc ol od 200 zk h1 (by omega) (by omega) (by omega) s1 (fun _ => ⟨rfl, by rw [s2, z64]⟩) (fun _ => ?_)
    rw [s2, z64, show zk - zk = 0 by omega]
    rfl
theorem ty61 {zc zl zd : Int} {q6 q7 : Option mi_V} {h : sm_H} (hC : ty_C d h0 hh a zk Q) (hS0 : ab_Sh sx_sk h0) (hO : tq_O h0) (k0 : 0 ≤ zk) (hb : tx_end tx_blk (mi_f h0 13954) (mi_a h0 111) a zk) (t1 : mi_f hh 14011 ≤ zk) (hzc : zc = mi_a h0 111 zk.toNat) (c0 : 0 ≤ zc) (dl : zl ≠ 0 ↔ tx_low zc) (dd : zd ≠ 0 ↔ tx_dig zc) (oc : mi_in zc) (ol : mi_in zl) (od : mi_in zd) (o6 : ∀ v, q6 = some v → mi_ok v) (o7 : ∀ v, q7 = some v → mi_ok v) (hH : ty_H h0 hh h) : ∀ (N : Nat) (ze : Int), mi_f h0 13954 - ze < N → zk < ze → ze ≤ mi_f h0 13954 → (zl ≠ 0 → ∀ j, zk ≤ j → j < ze → j < mi_f h0 13954 ∧ tx_low (mi_a h0 111 j.toNat)) → (zd ≠ 0 → ∀ j, zk ≤ j → j < ze → j < mi_f h0 13954 ∧ tx_dig (mi_a h0 111 j.toNat)) → (zl = 0 → zd = 0 → ze = zk + 1) → me_E (d + 1) 229 61 [some (.inr (.inr 109)), some (.inl zk), some (.inl zc), some (.inl zl), some (.inl zd), some (.inl ze), q6, q7] [] h Q := by
  have e2 := (me_fb (c := 13954) hS0 rfl).2
  have hS := hH.1
  have e13 : mi_f h 13954 = mi_f h0 13954 := me_f (c := 13954) hH.2.1 hS0 rfl rfl
  have ex : zl ≠ 0 → zd ≠ 0 → False := fun q1 q2 => by
    have a1 := dl.mp q1
    have a2 := dd.mp q2
    unfold tx_low at a1
    unfold tx_dig at a2
    omega
  intro N
  induction N with
  | zero => intro ze hN _ _; exfalso; omega
  | succ N ih =>
    intro ze hN e0 e1 hl hd hn
    have ea : mi_a h 111 ze.toNat = mi_a h0 111 ze.toNat := me_a (k := 111) hH.2.1 hS0 rfl rfl
    have ok : mi_in zk := ⟨by omega, by omega⟩
    have oe : mi_in ze := ⟨by omega, by omega⟩
    have end_ : ¬ (ze < mi_f h0 13954 ∧ zl ≠ 0 ∧ tx_low (mi_a h0 111 ze.toNat)) → ¬ (ze < mi_f h0 13954 ∧ zd ≠ 0 ∧ tx_dig (mi_a h0 111 ze.toNat)) → me_E (d + 1) 229 111 [some (.inr (.inr 109)), some (.inl zk), some (.inl zc), some (.inl zl), some (.inl zd), some (.inl ze), q6, q7] [] h Q := fun n1 n2 => ty111 (d := d) (q6 := q6) (q7 := q7) hC hS0 hO k0 hb t1 e0 e1 hzc c0 dl dd (fun q => ⟨by omega, hl q, fun x => n1 ⟨x.1, q, x.2⟩⟩) (fun q => ⟨by omega, hd q, fun x => n2 ⟨x.1, q, x.2⟩⟩) hn oc ol od o6 o7 hH
    have more : (zl ≠ 0 → ze < mi_f h0 13954 ∧ tx_low (mi_a h0 111 ze.toNat)) → (zd ≠ 0 → ze < mi_f h0 13954 ∧ tx_dig (mi_a h0 111 ze.toNat)) → (zl ≠ 0 ∨ zd ≠ 0) → ze < mi_f h0 13954 → me_E (d + 1) 229 61 [some (.inr (.inr 109)), some (.inl zk), some (.inl zc), some (.inl zl), some (.inl zd), some (.inl (ze + 1)), q6, q7] [] h Q := fun n1 n2 n3 n4 => by
      refine ih (ze + 1) (by omega) (by omega) (by omega) (fun q j j0 j1 => ?_) (fun q j j0 j1 => ?_) (fun q1 q2 => by omega)
      · by_cases ej : j = ze
        · subst ej
          exact n1 q
        · exact hl q j j0 (by omega)
      · by_cases ej : j = ze
        · subst ej
          exact n2 q
        · exact hd q j j0 (by omega)
    have go102 : ∀ zz, ze < mi_f h0 13954 → zd ≠ 0 → (zz ≠ 0 ↔ tx_dig (mi_a h0 111 ze.toNat)) → mi_in zz → me_E (d + 1) 229 102 [some (.inr (.inr 109)), some (.inl zk), some (.inl zc), some (.inl zl), some (.inl zd), some (.inl ze), q6, q7] [.inl zz] h Q := fun zz hlt zd0 hz oz => by
      refine mt_tk7 hS ok oc ol od oe oz o6 o7 ?_ ?_
      · intro c h1 g1 g2
        have e3 := me_nil g2
        subst e3
        exact end_ (fun x => ex x.2.1 zd0) (fun x => (hz.mpr x.2.2) c)
      · intro c
        refine ⟨by omega, fun h1 g1 g2 => ?_⟩
        have e3 := me_nil g2
        subst e3
        exact more (fun q => absurd zd0 (fun q2 => ex q q2)) (fun _ => ⟨hlt, hz.mp c⟩) (Or.inr zd0) hlt
    refine mt_tk5 hS ok oc ol od oe o6 o7 ?_ ?_ ?_ ?_
    · intro b c1 h1 g1 g2
      have e3 := me_nil g2
      subst e3
      exact end_ (fun x => by have := x.1; omega) (fun x => by have := x.1; omega)
    · intro b c1 c2 c3 h1 g1 g2
      have e3 := me_nil g2
      subst e3
      exact end_ (fun x => x.2.1 c2) (fun x => x.2.1 c3)
    · intro b c1 c2 c3
      refine ⟨by omega, fun h1 g1 g2 => ?_⟩
      have e3 := me_nil g2
      subst e3
      refine ⟨_, me_dix g1 (mi_inT _), fun w h2 ow hq => ?_⟩
      obtain ⟨rfl, z, rfl, oz, hz⟩ := hq
      exact go102 z (by omega) c3 (by rw [← ea]; exact hz) oz
    · intro b c1 c2
      refine ⟨by omega, fun h1 g1 g2 => ?_⟩
      have e3 := me_nil g2
      subst e3
      refine ⟨_, me_lox g1 (mi_inT _), fun w h2 ow hq => ?_⟩
      obtain ⟨rfl, z, rfl, oz, hz⟩ := hq
      have hy : z ≠ 0 ↔ tx_low (mi_a h0 111 ze.toNat) := by rw [← ea]; exact hz
      refine mt_tk6 g1 ok oc ol od oe oz o6 o7 ?_ ?_ ?_
      · intro c3
        refine ⟨by omega, fun h3 r1 r2 => ?_⟩
        have e3 := me_nil r2
        subst e3
        exact more (fun _ => ⟨by omega, hy.mp c3⟩) (fun q => absurd q (fun q2 => ex c2 q2)) (Or.inl c2) (by omega)
      · intro c3 c4 h3 r1 r2
        have e3 := me_nil r2
        subst e3
        exact end_ (fun x => (hy.mpr x.2.2) c3) (fun x => x.2.1 c4)
      · intro c3 c4
        exact absurd c4 (fun q2 => ex c2 q2)
end TQN
def ty_I (h0 h : sm_H) (zk : Int) : Prop := px_V h ∧ 0 ≤ mi_f h 14011 ∧ mi_f h 14011 ≤ zk ∧ ∃ p : Int → Int, p 0 = 0 ∧ (∀ j, 0 ≤ j → j < mi_f h 14011 → 0 ≤ p j ∧ p j ≤ mi_f h0 13954 ∧ ∃ s, tq_T0 h0 (p j) (mi_a h 152 j.toNat) (mx_b h 154 j.toNat).toInt s (p (j + 1))) ∧ 0 ≤ p (mi_f h 14011) ∧ p (mi_f h 14011) ≤ zk ∧ ∀ j, p (mi_f h 14011) ≤ j → j < zk → j < mi_f h0 13954 ∧ tx_blk (mi_a h0 111 j.toNat)
def tq_R (h0 : sm_H) (w : Option mi_V) (h' : sm_H) : Prop := w = none ∧ ab_Sh sx_sk h' ∧ ab_Fr tk_W h0 h' ∧ mi_a h' 152 (mi_f h' 14011).toNat = 0 ∧ px_V h' ∧ ∃ p, tq_S (mi_f h0 13954) (mi_a h0 111) (mi_f h0 13962) (tq_L h0) (px_E h').1 (px_E h').2.1 p (mi_f h' 14011)
theorem me_tokx {d : Nat} {h0 : sm_H} (hS0 : ab_Sh sx_sk h0) (hO : tq_O h0) (hc0 : ∀ i : Nat, (i : Int) < mi_f h0 13954 → 0 ≤ mi_a h0 111 i) : me_E (d + 1) 229 0 [some (.inr (.inr 109)), none, none, none, none, none, none, none] [] h0 (tq_R h0) := by
  have e2 := (me_fb (c := 13954) hS0 rfl).2
  have main : ∀ (N : Nat) (zk : Int) (q2 q3 q4 q5 q6 q7 : Option mi_V) (h : sm_H), mi_f h0 13954 - zk < N → 0 ≤ zk → zk ≤ mi_f h0 13954 → (∀ v, q2 = some v → mi_ok v) → (∀ v, q3 = some v → mi_ok v) → (∀ v, q4 = some v → mi_ok v) → (∀ v, q5 = some v → mi_ok v) → (∀ v, q6 = some v → mi_ok v) → (∀ v, q7 = some v → mi_ok v) → ab_Sh sx_sk h → ab_Fr tk_W h0 h → ty_I h0 h zk → me_E (d + 1) 229 7 [some (.inr (.inr 109)), some (.inl zk), q2, q3, q4, q5, q6, q7] [] h (tq_R h0) := by
    intro N
    induction N with
    | zero => intro zk q2 q3 q4 q5 q6 q7 h hN _ _; exfalso; omega
    | succ N ih =>
      intro zk q2 q3 q4 q5 q6 q7 h hN k0 k1 o2 o3 o4 o5 o6 o7 hS hF hI
      obtain ⟨hV, t0, t1, p, p0, p1, p2, p3, p4⟩ := hI
      have ok : mi_in zk := ⟨by omega, by omega⟩
      have e13 : mi_f h 13954 = mi_f h0 13954 := me_f (c := 13954) hF hS0 rfl rfl
      have ea : mi_a h 111 zk.toNat = mi_a h0 111 zk.toNat := me_a (k := 111) hF hS0 rfl rfl
      refine mt_tk1 hS ok o2 o3 o4 o5 o6 o7 ?_ ?_
      · intro b1 b2 c
        refine ⟨by omega, fun h1 g1 g2 g3 g4 => ?_⟩
        have f11 : mi_f h1 14011 = mi_f h 14011 := me_f (c := 14011) g4 hS rfl rfl
        have eb : ∀ i, mx_b h1 154 i = mx_b h 154 i := fun i => me_b (k := 154) g4 hS rfl rfl
        have ek : mi_a h1 152 (mi_f h1 14011).toNat = 0 := by rw [f11, g2, if_pos rfl]
        refine ⟨rfl, g1, hF.trans (g4.wide (fun c hc => ab_swr_ok (by decide) hc)), ek, fun i hi => ?_, fun j => if j ≤ mi_f h 14011 then p j else mi_f h0 13954, ?_, ?_, ek, by omega⟩
        · rw [eb]
          exact hV i (by omega)
        · show (if (0 : Int) ≤ mi_f h 14011 then p 0 else mi_f h0 13954) = 0
          rw [if_pos t0]
          exact p0
        · intro j j0 j1
          show 0 ≤ (if j ≤ mi_f h 14011 then p j else mi_f h0 13954) ∧ (if j ≤ mi_f h 14011 then p j else mi_f h0 13954) ≤ mi_f h0 13954 ∧ ∃ s, tq_T (mi_f h0 13954) (mi_a h0 111) (mi_f h0 13962) (tq_L h0) (if j ≤ mi_f h 14011 then p j else mi_f h0 13954) (mi_a h1 152 j.toNat) (mx_b h1 154 j.toNat).toInt s (if j + 1 ≤ mi_f h 14011 then p (j + 1) else mi_f h0 13954)
          rw [if_pos (by omega), eb]
          by_cases ej : j = mi_f h 14011
          · subst ej
            refine ⟨p2, by omega, mi_f h0 13954, ⟨by omega, fun i i0 i1 => p4 i i0 (by omega), fun x => by have := x.1; omega⟩, Or.inl ⟨by omega, ?_, by rw [if_neg (by omega)]⟩⟩
            rw [← f11]
            exact ek
          · rw [if_pos (by omega), g2, if_neg (by omega)]
            exact p1 j j0 (by omega)
      · intro b c
        refine ⟨by omega, fun h1 g1 g2 => ?_⟩
        have e3 := me_nil g2
        subst e3
        refine ⟨_, me_blx g1 (mi_inT _), fun w h2 ow hq => ?_⟩
        obtain ⟨rfl, z, rfl, oz, hz⟩ := hq
        have oc := mi_inT (mx_a h2 111 (Int.toNat zk))
        have hy : z ≠ 0 ↔ tx_blk (mi_a h0 111 zk.toNat) := by rw [← ea]; exact hz
        refine mt_tk2 g1 ok oc oz o3 o4 o5 o6 o7 ?_ ?_
        · intro b2 c2
          have hb : tx_end tx_blk (mi_f h0 13954) (mi_a h0 111) (p (mi_f h2 14011)) zk := ⟨p3, p4, fun x => (hy.mpr x.2) c2⟩
          refine ⟨by omega, fun h3 r1 r2 r3 => ⟨_, me_lox r1 oc, fun w h4 ow hq => ?_⟩⟩
          obtain ⟨rfl, z2, rfl, oz2, hz2⟩ := hq
          refine mt_tk3 r1 ok oc oz2 o3 o4 o5 o6 o7 ?_
          intro h5 s1 s2
          have e3 := me_nil s2
          subst e3
          refine ⟨_, me_dix s1 oc, fun w h6 ow hq => ?_⟩
          obtain ⟨rfl, z3, rfl, oz3, hz3⟩ := hq
          refine mt_tk4 s1 ok oc oz2 oz3 o4 o5 o6 o7 ?_
          refine ⟨by omega, fun h7 u1 u2 => ?_⟩
          have e3 := me_nil u2
          subst e3
          have hF3 := hF.trans (r3.wide (wr' := tk_W) (fun c hc => ab_swr_ok (by decide) hc))
          have hH : ty_H h0 h2 h7 := ⟨u1, hF3, me_f (c := 14011) r3 g1 rfl rfl, fun i => me_a (k := 152) r3 g1 rfl rfl, fun i _ => me_b (k := 154) r3 g1 rfl rfl⟩
          have hzc : mi_a h2 111 zk.toNat = mi_a h0 111 zk.toNat := ea
          refine ty61 (hh := h2) (a := p (mi_f h2 14011)) ?_ hS0 hO k0 hb t1 hzc (by rw [hzc]; exact hc0 _ (by omega)) hz2 hz3 oc oz2 oz3 o6 o7 hH 200 (zk + 1) (by omega) (by omega) (by omega) (fun q j j0 j1 => ?_) (fun q j j0 j1 => ?_) (fun _ _ => rfl)
          · intro ze y2 y3 y4 y5 y6 y7 h8 x1 x2 v2 v3 v4 v5 v6 v7 x3 x4 x5 x6 x7 x8 x9 x10
            refine ih ze y2 y3 y4 y5 y6 y7 h8 (by omega) (by omega) x2 v2 v3 v4 v5 v6 v7 x3 x4 ⟨fun i hi => ?_, by omega, by omega, fun j => if j ≤ mi_f h2 14011 then p j else ze, ?_, fun j j0 j1 => ?_, ?_, ?_, ?_⟩
            · by_cases ei : i = (mi_f h2 14011).toNat
              · rw [ei]
                exact ⟨x8, x9⟩
              · rw [x7 i ei]
                exact hV i (by omega)
            · show (if (0 : Int) ≤ mi_f h2 14011 then p 0 else ze) = 0
              rw [if_pos t0]
              exact p0
            · show 0 ≤ (if j ≤ mi_f h2 14011 then p j else ze) ∧ (if j ≤ mi_f h2 14011 then p j else ze) ≤ mi_f h0 13954 ∧ ∃ s, tq_T0 h0 (if j ≤ mi_f h2 14011 then p j else ze) (mi_a h8 152 j.toNat) (mx_b h8 154 j.toNat).toInt s (if j + 1 ≤ mi_f h2 14011 then p (j + 1) else ze)
              rw [if_pos (by omega)]
              by_cases ej : j = mi_f h2 14011
              · subst ej
                rw [if_neg (by omega)]
                exact ⟨p2, by omega, zk, x10⟩
              · rw [if_pos (by omega), x6 _ (by omega), x7 _ (by omega)]
                exact p1 j j0 (by omega)
            · show 0 ≤ (if mi_f h8 14011 ≤ mi_f h2 14011 then p (mi_f h8 14011) else ze)
              rw [if_neg (by omega)]
              omega
            · show (if mi_f h8 14011 ≤ mi_f h2 14011 then p (mi_f h8 14011) else ze) ≤ ze
              rw [if_neg (by omega)]
              omega
            · show ∀ j, (if mi_f h8 14011 ≤ mi_f h2 14011 then p (mi_f h8 14011) else ze) ≤ j → j < ze → _
              rw [if_neg (by omega)]
              intro j j0 j1
              omega
          · have ej : j = zk := by omega
            subst ej
            rw [← hzc]
            exact ⟨by omega, hz2.mp q⟩
          · have ej : j = zk := by omega
            subst ej
            rw [← hzc]
            exact ⟨by omega, hz3.mp q⟩
        · intro c2
          refine ⟨by omega, fun h3 r1 r2 => ?_⟩
          have e3 := me_nil r2
          subst e3
          refine ih (zk + 1) _ _ _ _ _ _ _ (by omega) (by omega) (by omega) (me_oi oc) o3 o4 o5 o6 o7 hS hF ⟨hV, t0, by omega, p, p0, p1, p2, by omega, fun j j0 j1 => ?_⟩
          by_cases ej : j = zk
          · subst ej
            exact ⟨by omega, hy.mp c2⟩
          · exact p4 j j0 (by omega)
  refine mt_tk0 hS0 ?_
  intro h1 g1 g2 g3
  exact main 200 0 _ _ _ _ _ _ h1 (by omega) (by decide) (me_fb (c := 13954) hS0 rfl).1 me_on me_on me_on me_on me_on me_on g1 (g3.wide (fun c hc => ab_swr_ok (by decide) hc)) ⟨fun i hi => by omega, by omega, by omega, fun _ => 0, rfl, fun j j0 j1 => by omega, Int.le_refl _, Int.le_refl _, fun j (j0 : 0 ≤ j) j1 => by omega⟩
/-! parse of the reference, exactly -/
theorem pm_st_g {g g' : wk_g} {E : pm_E} {l : Int} (hg : wk_gc g g') : pm_st g' E l = pm_st g E l := by
  funext e r s
  unfold pm_st
  rw [pm_u_g hg, pm_fo_g hg, pm_ag_g hg]
theorem pc_0_e {g : wk_g} {X : Int64} : pc_0 g X = some ([(1, g 114 0, 0), (2, 1, 0)], (X, 0, [(1, 0, 0)], 1, [])) := by
  unfold pc_0 pm_en gm_c
  rw [if_neg (show ¬ (12 : Int) ≤ 0 + wk_ul [] by decide), gm_X_mk, gm_F_mk, gm_T_mk, gm_D_mk, gm_P_mk, if_neg (show ¬ 100 ≤ ([] : List (Int × Int × Int)).length by decide)]
  rfl
theorem pw_u {st : wk_E → List wk_E → gm_S → Option gm_C} {a : gm_C} {s s' : gm_S} {n m : Nat} (h1 : pw_to st n a ([], s)) (h2 : pw_to st m a ([], s')) : s' = s := by
  by_cases c : n ≤ m
  · have := (pw_end _ (pw_det _ _ _ h1 h2 c)).2
    exact (Prod.mk.inj this).2
  · have := (pw_end _ (pw_det _ _ _ h2 h1 (by omega))).2
    exact (Prod.mk.inj this).2.symm
theorem pw_stuck {st : wk_E → List wk_E → gm_S → Option gm_C} {a : gm_C} {e : wk_E} {r : List wk_E} {s s' : gm_S} {n m : Nat} (h1 : pw_to st n a (e :: r, s)) (hn : st e r s = none) (h2 : pw_to st m a ([], s')) : False := by
  by_cases c : n ≤ m
  · have := pw_det _ _ _ h1 h2 c
    cases hk : m - n with
    | zero =>
      rw [hk] at this
      exact pw_0 this
    | succ k =>
      rw [hk] at this
      obtain ⟨c1, x, -⟩ := pw_cons this
      rw [hn] at x
      cases x
  · have := (pw_end _ (pw_det _ _ _ h2 h1 (by omega))).2
    cases this
def pr_G (h : sm_H) : Prop := ∃ Y pf pa, wk_L (mi_a h) Y ∧ wk_Lrule Y (mi_a h 114 0) ∧ pm_x Y ∧ pm_Hs (mi_a h) Y (px_E h) pf pa ∧ (∀ u, 0 ≤ u → u < wk_u Y → px_W h u) ∧ tq_O h ∧ ∀ i : Nat, (i : Int) < mi_f h 13954 → 0 ≤ mi_a h 111 i
def pr_N : List (Nat × Nat) := [(13952, 13953), (14011, 14012), (14016, 14017), (14028, 14038), (14044, 14048), (18560, 18561), (19456, 19457), (19584, 19585), (19712, 19713), (20224, 20481), (20864, 20865), (21120, 21761)]
def pr_Y : List (Nat × Nat) := pr_N ++ ta_W
/-- what parse does: nothing to the tree, or the tree that the walk over the tokens makes -/
def pr_X (h : sm_H) (w : Option mi_V) (h' : sm_H) : Prop := (mi_f h 13959 < 2 → ab_Fr pr_N h h') ∧ (2 ≤ mi_f h 13959 → ∃ (E : pm_E) (p : Int → Int) (N : Int), E.2.2 = (px_E h).2.2 ∧ N ≤ 160 ∧ tq_S (mi_f h 13954) (mi_a h 111) (mi_f h 13962) (tq_L h) E.1 E.2.1 p N ∧ ((pm_NO (mi_a h) E (pc_0 (mi_a h) 0) ∧ ab_Fr pr_N h h') ∨ (ab_Fr pr_Y h h' ∧ ∃ s', pm_RO (mi_a h) E (pc_0 (mi_a h) 0) ([], s') ∧ pm_K E s' = 0 ∧ w = some (.inl ((gm_T s').length : Int)) ∧ (gm_T s').length ≤ 100 ∧ gs_T h' (gm_T s'))))
section PRX
variable {d : Nat} {h : sm_H}
theorem pm_Hs_E {g : wk_g} {Y : wk_Y} {E E' : pm_E} {pf pa : Int → Int → Bool} (e : E'.2.2 = E.2.2) (h : pm_Hs g Y E pf pa) : pm_Hs g Y E' pf pa := by
  unfold pm_Hs at h ⊢
  rw [e]
  exact h
theorem me_parsex (hS : ab_Sh sx_sk h) (hG : 2 ≤ mi_f h 13959 → pr_G h) : me_E (d + 20) 228 0 [some (.inr (.inr 109))] [] h (pr_X h) := by
  refine mt_paA hS ?_ ?_
  · intro b c h1 g1 g2 g3
    obtain ⟨Y, pf, pa, l1, l2, l3, l4, l5, l6, l7⟩ := hG c
    have f54 : mi_f h1 13954 = mi_f h 13954 := me_f (c := 13954) g3 hS rfl rfl
    have f62 : mi_f h1 13962 = mi_f h 13962 := me_f (c := 13962) g3 hS rfl rfl
    have f111 : ∀ i, mi_a h1 111 i = mi_a h 111 i := fun i => me_a (k := 111) g3 hS rfl rfl
    have fL : ∀ i, tq_L h1 i = tq_L h i := fun i => by
      unfold tq_L
      rw [me_b (k := 118) g3 hS rfl rfl, me_a (k := 117) g3 hS rfl rfl]
    have hO1 : tq_O h1 := fun k hk => by
      rw [me_b (k := 118) g3 hS rfl rfl, me_a (k := 117) g3 hS rfl rfl]
      exact l6 k (by omega)
    refine ⟨_, me_tokx (d := d + 18) g1 hO1 (fun i hi => by rw [f111]; exact l7 i (by omega)), fun w h2 ow hq => ?_⟩
    obtain ⟨rfl, q1, q2, q3, qV, p, qS⟩ := hq
    rw [f54, f62, show mi_a h1 111 = mi_a h 111 from funext f111, show tq_L h1 = tq_L h from funext fL] at qS
    have F2 : ab_Fr pr_N h h2 := (g3.wide (fun c hc => ab_swr_ok (by decide) hc)).trans (q2.wide (fun c hc => ab_swr_ok (by decide) hc))
    have F2' : ab_Fr [(13952, 13953), (14011, 14012), (19456, 19457), (19584, 19585), (19712, 19713)] h h2 := (g3.wide (fun c hc => ab_swr_ok (by decide) hc)).trans (q2.wide (fun c hc => ab_swr_ok (by decide) hc))
    have hg : wk_gc (mi_a h) (mi_a h2) := wk_gc_fr F2' hS rfl
    have e14 : mi_a h2 114 0 = mi_a h 114 0 := hg 114 (by decide) 0
    have eE : (px_E h2).2.2 = (px_E h).2.2 := by
      have e3 : ∀ i, mx_b h2 134 i = mx_b h 134 i := fun i => me_b (k := 134) F2' hS rfl rfl
      have e4 : ∀ i, mx_b h2 135 i = mx_b h 135 i := fun i => me_b (k := 135) F2' hS rfl rfl
      have e5 : ∀ i, mi_a h2 132 i = mi_a h 132 i := fun i => me_a (k := 132) F2' hS rfl rfl
      have e6 : ∀ i, mx_b h2 138 i = mx_b h 138 i := fun i => me_b (k := 138) F2' hS rfl rfl
      unfold px_E
      simp only [e3, e4, e5, e6]
    refine mt_paB q1 ?_
    intro h2' p1 p2
    have e2 := me_nil p2
    subst e2
    refine ⟨_, me_walkp (d := d + 12) (X := 0) q1 (wk_L_g l1 hg) l3 (by rw [e14]; exact l2) qV (fun u u0 u1 => px_W_g hg (l5 u u0 u1)) q3, fun w h3 ow hq => ?_⟩
    obtain ⟨rfl, q4, q5, q6⟩ := hq
    rw [e14] at q6
    unfold pl_NO pl_S at q6
    rw [pm_st_g hg] at q6
    have l4' : pm_Hs (mi_a h) Y (px_E h2') pf pa := pm_Hs_E eE l4
    have F3 : ab_Fr pr_N h h3 := F2.trans (q5.wide (fun c hc => ab_swr_ok (by decide) hc))
    have bN := me_fb (c := 14011) q1 rfl
    have trn : ∀ (zt : Int) (B : List wk_E) (s : gm_S), 0 ≤ zt → ((B = [] ∨ zt = 40000) ∧ pw_to (pm_st (mi_a h) (px_E h2') 0) zt.toNat ([(1, mi_a h 114 0, 0), (2, 1, 0)], (0, 0, [(1, 0, 0)], 1, [])) (B, s) ∧ gm_len s ≤ 100 ∧ gm_F s ≤ 160 ∧ 0 ≤ pm_pot Y B) → B = [] := by
      intro zt B s z0 ⟨y1, y2, y3, y4, y5⟩
      rcases y1 with y1 | y1
      · exact y1
      · exfalso
        have := pm_turns l1 l3 l4' l2 (show gm_len ((0, 0, [(1, 0, 0)], 1, []) : gm_S) = 1 ∧ gm_F ((0, 0, [(1, 0, 0)], 1, []) : gm_S) = 0 from ⟨by unfold gm_len; rw [gm_T_mk]; rfl, gm_F_mk _ _ _ _ _⟩) y2 y3 y4 y5
        omega
    have bad : (mi_f h3 14044 = 1 ∨ 0 ≤ mi_f h3 14034) → pm_NO (mi_a h) (px_E h2') (pc_0 (mi_a h) 0) := by
      intro hb c1 hc1
      rw [pc_0_e] at hc1
      injection hc1 with hc1
      subst hc1
      intro n s' hto
      rcases q6 with ⟨-, ⟨n1, e, r, s, x1, x2⟩ | ⟨zt, B, s, z0, z1, x1, x2⟩⟩ | ⟨x1, x2, -⟩
      · exact absurd hto (fun q => pw_stuck x1 x2 q)
      · have eB := trn zt B s z0 x1
        subst eB
        rw [pw_u x1.2.1 hto]
        exact x2
      · exfalso; omega
    refine mt_paC q4 ?_ ?_ ?_
    · intro b1 b2 c1 c2 h4 r1 r2 r3
      refine ⟨_, me_takex (d := d + 19) r1, fun w h5 ow hq => ?_⟩
      obtain ⟨rfl, t0, t1, t2, t3⟩ := hq
      refine mt_paD t0 (ow _ rfl) ?_
      intro h6 u1 u2
      have e6 := me_nil u2
      subst e6
      refine ⟨fun q => by omega, fun _ => ⟨px_E h2', p, mi_f h2' 14011, eE, bN.2, qS, Or.inr ?_⟩⟩
      rcases q6 with ⟨x1, -⟩ | ⟨x1, x2, zt, s, z0, z1, y1, hR, y3⟩
      · exfalso; omega
      have eB := trn zt _ s z0 y1
      have e16 : mi_f h4 14016 = mi_f h3 14016 := me_f (c := 14016) r3 q4 rfl rfl
      have yto := y1.2.1
      rw [eB] at yto
      have yl : ((gm_T s).length : Int) ≤ 100 := y1.2.2.1
      refine ⟨((F3.wide (fun c hc => ab_swr_ok (by decide) hc)).trans (r3.wide (fun c hc => ab_swr_ok (by decide) hc))).trans (t1.wide (fun c hc => ab_swr_ok (by decide) hc)), s, ⟨_, zt.toNat, pc_0_e, yto⟩, y3, by rw [e16, hR.1.1], by omega, gs_T_of (gx_T_fr hR.1 r3 q4 rfl) t2 t3⟩
    · intro b1 b2 c1 c2
      refine ⟨by omega, fun h4 r1 r2 r3 => ?_⟩
      exact ⟨fun q => by omega, fun _ => ⟨px_E h2', p, mi_f h2' 14011, eE, bN.2, qS, Or.inl ⟨bad (Or.inr c2), F3.trans (r3.wide (fun c hc => ab_swr_ok (by decide) hc))⟩⟩⟩
    · intro b1 c1 h4 r1 r2 r3
      exact ⟨fun q => by omega, fun _ => ⟨px_E h2', p, mi_f h2' 14011, eE, bN.2, qS, Or.inl ⟨bad (Or.inl (by omega)), F3.trans (r3.wide (fun c hc => ab_swr_ok (by decide) hc))⟩⟩⟩
  · intro b c h1 g1 g2 g3
    exact ⟨fun _ => g3.wide (fun c hc => ab_swr_ok (by decide) hc), fun q => by omega⟩
end PRX
/-! THE REPLAY: the walk that goes by the values V of the nodes, in the order in which they are made; it builds the tree again, and its leaves are told -/
def dm_lf (V : Int → Int) (o : Int) (s : gm_S) : Option gm_S := if o = 1 then gm_c 2 (V (gm_len s)) s else if o = 2 then gm_c 3 (V (gm_len s)) s else some s
def dm_sg (l : Int) (g : wk_g) (V : Int → Int) (u : Int) (r : List wk_E) (s : gm_S) : Option gm_C :=
  if g 119 u.toNat = 9 then pm_en l g (g 115 (g 120 u.toNat).toNat) r s
  else if g 119 u.toNat = 10 then some ((1, g 120 u.toNat, 0) :: r, s)
  else (dm_lf V (g 119 u.toNat) s).map (fun t => (r, t))
def dm_u (l : Int) (g : wk_g) (V : Int → Int) (u : Int) (r : List wk_E) (s : gm_S) : Option gm_C :=
  if g 122 u.toNat = 1 then (gm_c 5 (V (gm_len s)) s).map (fun t => ((5, u, V (gm_len s)) :: (2, 0, 0) :: r, gm_d t))
  else if g 122 u.toNat = 2 then (gm_c 6 (V (gm_len s)) s).bind (fun t => if 0 < V (gm_len s) then dm_sg l g V u ((2, 0, 0) :: r) (gm_d t) else some ((2, 0, 0) :: r, gm_d t))
  else dm_sg l g V u r s
def dm_fo (g : wk_g) (V : Int → Int) (f : Int) (r : List wk_E) (s : gm_S) : Option gm_C :=
  if 1 < g 130 f.toNat then (if 0 ≤ V (gm_len s) ∧ V (gm_len s) < g 130 f.toNat then (gm_c 4 (V (gm_len s)) s).map (fun t => (wk_it g 61 (g 126 (wk_alt g (V (gm_len s)).toNat (g 129 f.toNat)).toNat) ++ (2, 0, 0) :: r, gm_d t)) else none)
  else some (wk_it g 61 (g 126 (g 129 f.toNat).toNat) ++ r, s)
def dm_ag (l : Int) (g : wk_g) (V : Int → Int) (u a : Int) (r : List wk_E) (s : gm_S) : Option gm_C := if 0 < a then dm_sg l g V u ((5, u, a - 1) :: r) s else some (r, s)
def dm_st (g : wk_g) (V : Int → Int) (l : Int) (e : wk_E) (r : List wk_E) (s : gm_S) : Option gm_C :=
  if e.1 = 0 then dm_u l g V e.2.1 r (gm_op e.2.2 s)
  else if e.1 = 1 then dm_fo g V e.2.1 r s
  else if e.1 = 5 then dm_ag l g V e.2.1 e.2.2 r s
  else if e.1 = 2 then some (r, (gm_X s, gm_F s, gm_T s, gm_D s - 1, gm_P s))
  else if e.1 = 3 then some (r, gm_mid s)
  else some (r, gm_tu s)
/-- the leaves of a turn: the unit, and the value of its node -/
def dv_lf (g : wk_g) (V : Int → Int) (u c : Int) : List (Int × Int) := if g 119 u.toNat = 9 ∨ g 119 u.toNat = 10 then [] else [(u, V c)]
def dv (g : wk_g) (V : Int → Int) (e : wk_E) (s : gm_S) : List (Int × Int) :=
  if e.1 = 0 then (if g 122 e.2.1.toNat = 1 then [] else if g 122 e.2.1.toNat = 2 then (if 0 < V (gm_len s) then dv_lf g V e.2.1 (gm_len s + 1) else []) else dv_lf g V e.2.1 (gm_len s))
  else if e.1 = 5 then (if 0 < e.2.2 then dv_lf g V e.2.1 (gm_len s) else [])
  else []
section DM0
variable {g : wk_g} {V : Int → Int} {l : Int} {r q : List wk_E} {s : gm_S}
theorem dm_st_0 {u o : Int} : dm_st g V l (0, u, o) r s = dm_u l g V u r (gm_op o s) := by
  unfold dm_st
  rw [if_pos rfl]
theorem dm_st_1 {f a : Int} : dm_st g V l (1, f, a) r s = dm_fo g V f r s := by
  unfold dm_st
  rw [if_neg (show ¬ (1 : Int) = 0 by decide), if_pos rfl]
theorem dm_st_5 {u a : Int} : dm_st g V l (5, u, a) r s = dm_ag l g V u a r s := by
  unfold dm_st
  rw [if_neg (show ¬ (5 : Int) = 0 by decide), if_neg (show ¬ (5 : Int) = 1 by decide), if_pos rfl]
theorem dm_st_2 {u a : Int} : dm_st g V l (2, u, a) r s = some (r, (gm_X s, gm_F s, gm_T s, gm_D s - 1, gm_P s)) := by
  unfold dm_st
  rw [if_neg (show ¬ (2 : Int) = 0 by decide), if_neg (show ¬ (2 : Int) = 1 by decide), if_neg (show ¬ (2 : Int) = 5 by decide), if_pos rfl]
theorem dm_st_3 {u a : Int} : dm_st g V l (3, u, a) r s = some (r, gm_mid s) := by
  unfold dm_st
  rw [if_neg (show ¬ (3 : Int) = 0 by decide), if_neg (show ¬ (3 : Int) = 1 by decide), if_neg (show ¬ (3 : Int) = 5 by decide), if_neg (show ¬ (3 : Int) = 2 by decide), if_pos rfl]
theorem dm_st_4 {u a : Int} : dm_st g V l (4, u, a) r s = some (r, gm_tu s) := by
  unfold dm_st
  rw [if_neg (show ¬ (4 : Int) = 0 by decide), if_neg (show ¬ (4 : Int) = 1 by decide), if_neg (show ¬ (4 : Int) = 5 by decide), if_neg (show ¬ (4 : Int) = 2 by decide), if_neg (show ¬ (4 : Int) = 3 by decide)]
theorem dm_sg_loc {u : Int} : dm_sg l g V u (r ++ q) s = (dm_sg (l + wk_ul q) g V u r s).map (fun c => (c.1 ++ q, c.2)) := by
  unfold dm_sg
  by_cases c9 : g 119 u.toNat = 9
  · rw [if_pos c9, if_pos c9]
    exact pm_en_loc
  · rw [if_neg c9, if_neg c9]
    by_cases c10 : g 119 u.toNat = 10
    · rw [if_pos c10, if_pos c10]
      rfl
    · rw [if_neg c10, if_neg c10]
      cases dm_lf V (g 119 u.toNat) s with
      | none => rfl
      | some t => rfl
theorem dm_u_loc {u : Int} : dm_u l g V u (r ++ q) s = (dm_u (l + wk_ul q) g V u r s).map (fun c => (c.1 ++ q, c.2)) := by
  unfold dm_u
  by_cases c1 : g 122 u.toNat = 1
  · rw [if_pos c1, if_pos c1]
    cases gm_c 5 (V (gm_len s)) s with
    | none => rfl
    | some t => rfl
  · rw [if_neg c1, if_neg c1]
    by_cases c2 : g 122 u.toNat = 2
    · rw [if_pos c2, if_pos c2]
      cases gm_c 6 (V (gm_len s)) s with
      | none => rfl
      | some t =>
        show (if 0 < V (gm_len s) then dm_sg l g V u ((2, 0, 0) :: (r ++ q)) (gm_d t) else some ((2, 0, 0) :: (r ++ q), gm_d t)) = Option.map _ (if 0 < V (gm_len s) then dm_sg (l + wk_ul q) g V u ((2, 0, 0) :: r) (gm_d t) else some ((2, 0, 0) :: r, gm_d t))
        by_cases ch : 0 < V (gm_len s)
        · rw [if_pos ch, if_pos ch]
          exact dm_sg_loc (r := (2, 0, 0) :: r)
        · rw [if_neg ch, if_neg ch]
          rfl
    · rw [if_neg c2, if_neg c2]
      exact dm_sg_loc
theorem dm_loc : pw_loc (dm_st g V) := by
  intro l e r q s
  unfold dm_st
  by_cases c0 : e.1 = 0
  · rw [if_pos c0, if_pos c0]
    exact dm_u_loc
  · rw [if_neg c0, if_neg c0]
    by_cases c1 : e.1 = 1
    · rw [if_pos c1, if_pos c1]
      unfold dm_fo
      by_cases c2 : 1 < g 130 e.2.1.toNat
      · rw [if_pos c2, if_pos c2]
        by_cases c3 : 0 ≤ V (gm_len s) ∧ V (gm_len s) < g 130 e.2.1.toNat
        · rw [if_pos c3, if_pos c3]
          cases gm_c 4 (V (gm_len s)) s with
          | none => rfl
          | some t =>
            dsimp only [Option.map]
            rw [List.append_assoc]
            rfl
        · rw [if_neg c3, if_neg c3]
          rfl
      · rw [if_neg c2, if_neg c2]
        dsimp only [Option.map]
        rw [List.append_assoc]
    · rw [if_neg c1, if_neg c1]
      by_cases c5 : e.1 = 5
      · rw [if_pos c5, if_pos c5]
        unfold dm_ag
        by_cases ch : 0 < e.2.2
        · rw [if_pos ch, if_pos ch]
          exact dm_sg_loc (r := (5, e.2.1, e.2.2 - 1) :: r)
        · rw [if_neg ch, if_neg ch]
          rfl
      · rw [if_neg c5, if_neg c5]
        by_cases c2 : e.1 = 2
        · rw [if_pos c2, if_pos c2]
          rfl
        · rw [if_neg c2, if_neg c2]
          by_cases c3 : e.1 = 3
          · rw [if_pos c3, if_pos c3]
            rfl
          · rw [if_neg c3, if_neg c3]
            rfl
end DM0
/-- runs that tell something at each turn -/
def pe_to (st : wk_E → List wk_E → gm_S → Option gm_C) (ev : wk_E → gm_S → List (Int × Int)) : Nat → gm_C → gm_C → List (Int × Int) → Prop
  | 0, c, d, L => c = d ∧ L = []
  | n + 1, c, d, L => ∃ e r c1 L1, c.1 = e :: r ∧ st e r c.2 = some c1 ∧ pe_to st ev n c1 d L1 ∧ L = ev e c.2 ++ L1
section PE0
variable {st : wk_E → List wk_E → gm_S → Option gm_C} {ev : wk_E → gm_S → List (Int × Int)}
theorem pe_pw {d : gm_C} : ∀ (n : Nat) (c : gm_C) (L : List (Int × Int)), pe_to st ev n c d L → pw_to st n c d := by
  intro n
  induction n with
  | zero => intro c L h; exact h.1
  | succ n ih =>
    intro c L h
    obtain ⟨e, r, c1, L1, h1, h2, h3, -⟩ := h
    exact ⟨e, r, c1, h1, h2, ih c1 L1 h3⟩
theorem pe_of {d : gm_C} : ∀ (n : Nat) (c : gm_C), pw_to st n c d → ∃ L, pe_to st ev n c d L := by
  intro n
  induction n with
  | zero => intro c h; exact ⟨[], h, rfl⟩
  | succ n ih =>
    intro c h
    obtain ⟨e, r, c1, h1, h2, h3⟩ := h
    obtain ⟨L, hL⟩ := ih c1 h3
    exact ⟨_, e, r, c1, L, h1, h2, hL, rfl⟩
theorem pe_cons {n : Nat} {e : wk_E} {r : List wk_E} {s : gm_S} {d : gm_C} {L : List (Int × Int)} (h : pe_to st ev (n + 1) (e :: r, s) d L) : ∃ c1 L1, st e r s = some c1 ∧ pe_to st ev n c1 d L1 ∧ L = ev e s ++ L1 := by
  obtain ⟨e', r', c1, L1, h1, h2, h3, h4⟩ := h
  injection h1 with h5 h6
  subst h5
  subst h6
  exact ⟨c1, L1, h2, h3, h4⟩
/-- what is told from the begin to the end is one thing -/
theorem pe_u {s s' : gm_S} : ∀ (n m : Nat) (a : gm_C) (L K : List (Int × Int)), pe_to st ev n a ([], s) L → pe_to st ev m a ([], s') K → n = m ∧ s = s' ∧ L = K := by
  intro n
  induction n with
  | zero =>
    intro m a L K h1 h2
    obtain ⟨h1, k1⟩ := h1
    subst h1
    cases m with
    | zero =>
      obtain ⟨h2, k2⟩ := h2
      exact ⟨rfl, (Prod.mk.inj h2).2, by rw [k1, k2]⟩
    | succ m =>
      obtain ⟨e, r, c1, L1, x, -⟩ := h2
      cases x
  | succ n ih =>
    intro m a L K h1 h2
    obtain ⟨e, r, c1, L1, x1, x2, x3, x4⟩ := h1
    cases m with
    | zero =>
      obtain ⟨h2, -⟩ := h2
      rw [h2] at x1
      cases x1
    | succ m =>
      obtain ⟨e', r', c1', L1', y1, y2, y3, y4⟩ := h2
      rw [x1] at y1
      injection y1 with y5 y6
      subst y5
      subst y6
      rw [x2] at y2
      injection y2 with y2
      subst y2
      obtain ⟨i1, i2, i3⟩ := ih m c1 L1 L1' x3 y3
      exact ⟨by omega, i2, by rw [x4, y4, i3]⟩
end PE0
section PE1
variable {st : Int → wk_E → List wk_E → gm_S → Option gm_C} {ev : wk_E → gm_S → List (Int × Int)}
theorem pe_split0 (hl : pw_loc st) {l : Int} {q : List wk_E} {s' : gm_S} : ∀ (n : Nat) (A : List wk_E) (s : gm_S) (L : List (Int × Int)), pe_to (st l) ev n (A ++ q, s) ([], s') L → ∃ n1 s1 L1 L2, n1 ≤ n ∧ pe_to (st (l + wk_ul q)) ev n1 (A, s) ([], s1) L1 ∧ pe_to (st l) ev (n - n1) (q, s1) ([], s') L2 ∧ L = L1 ++ L2 := by
  intro n
  induction n with
  | zero =>
    intro A s L h
    obtain ⟨h, k⟩ := h
    have hA : A ++ q = [] := (Prod.mk.inj h).1
    obtain ⟨a1, a2⟩ := List.append_eq_nil_iff.mp hA
    subst a1
    exact ⟨0, s, [], L, Nat.le_refl _, ⟨rfl, rfl⟩, ⟨h, k⟩, rfl⟩
  | succ n ih =>
    intro A s L h
    cases A with
    | nil => exact ⟨0, s, [], L, Nat.zero_le _, ⟨rfl, rfl⟩, h, rfl⟩
    | cons e r =>
      obtain ⟨c1, L1, h2, h3, h4⟩ := pe_cons (show pe_to (st l) ev (n + 1) (e :: (r ++ q), s) ([], s') L from h)
      rw [hl] at h2
      obtain ⟨c0, k1, k2⟩ := Option.map_eq_some_iff.mp h2
      subst k2
      obtain ⟨n1, s1, M1, M2, i1, i2, i3, i4⟩ := ih c0.1 c0.2 L1 h3
      refine ⟨n1 + 1, s1, ev e s ++ M1, M2, by omega, ⟨e, r, c0, M1, rfl, k1, i2, rfl⟩, ?_, by rw [h4, i4, List.append_assoc]⟩
      rwa [show n + 1 - (n1 + 1) = n - n1 from by omega]
end PE1
/-! a run that makes a tree is a replay of what it made -/
def vT (V : Int → Int) (T : List (Int × Int × Int)) : List (Int × Int × Int) := T.map (fun x => (x.1, V (x.1 / 10), x.2.2))
def vs (V : Int → Int) (s : gm_S) : gm_S := (0, 0, vT V (gm_T s), gm_D s, gm_P s)
/-- the values of T are V's -/
def vo (V : Int → Int) (s : gm_S) : Prop := ∀ x ∈ gm_T s, V (x.1 / 10) = x.2.1
section VS0
variable {V : Int → Int} {s t : gm_S} {T : List (Int × Int × Int)}
theorem vT_len : (vT V T).length = T.length := List.length_map _
theorem vT_id (h : ∀ x ∈ T, V (x.1 / 10) = x.2.1) : vT V T = T := by
  induction T with
  | nil => rfl
  | cons x T ih =>
    show (x.1, V (x.1 / 10), x.2.2) :: vT V T = x :: T
    rw [ih (fun y hy => h y (List.mem_cons_of_mem _ hy)), h x List.mem_cons_self]
theorem vT_app {A : List (Int × Int × Int)} : vT V (T ++ A) = vT V T ++ vT V A := List.map_append
theorem vT_one {k v D : Int} {n : Nat} (hk : 0 ≤ k ∧ k < 10) : vT V [(k + 10 * (n : Int), v, D)] = [(k + 10 * (n : Int), V (n : Int), D)] := by
  show [(k + 10 * (n : Int), V ((k + 10 * (n : Int)) / 10), D)] = _
  rw [show (k + 10 * (n : Int)) / 10 = (n : Int) by omega]
theorem vT_rot {a b : Nat} : gm_rot a b (vT V T) = vT V (gm_rot a b T) := by
  unfold gm_rot
  rw [vT_len]
  by_cases c : a ≤ b ∧ b ≤ T.length
  · rw [if_pos c, if_pos c, vT_app, vT_app]
    unfold vT
    rw [List.map_take, List.map_drop, List.map_drop, List.map_take]
  · rw [if_neg c, if_neg c]
theorem vs_e (e1 : gm_T t = gm_T s) (e2 : gm_D t = gm_D s) (e3 : gm_P t = gm_P s) : vs V t = vs V s := by
  unfold vs
  rw [e1, e2, e3]
theorem vs_T : gm_T (vs V s) = vT V (gm_T s) := gm_T_mk _ _ _ _ _
theorem vs_len : gm_len (vs V s) = gm_len s := by
  unfold gm_len
  rw [vs_T, vT_len]
theorem vs_d : gm_d (vs V s) = vs V (gm_d s) := by
  unfold gm_d vs
  simp only [gm_X_mk, gm_F_mk, gm_T_mk, gm_D_mk, gm_P_mk]
theorem vs_op {o : Int} : gm_op o (vs V s) = vs V (gm_op o s) := by
  unfold gm_op
  by_cases c : o = 1
  · rw [if_pos c, if_pos c]
    unfold vs
    simp only [gm_X_mk, gm_F_mk, gm_T_mk, gm_D_mk, gm_P_mk, vT_len]
  · rw [if_neg c, if_neg c]
theorem vs_mid : gm_mid (vs V s) = vs V (gm_mid s) := by
  unfold gm_mid vs
  simp only [gm_X_mk, gm_F_mk, gm_T_mk, gm_D_mk, gm_P_mk, vT_len]
theorem vs_tu : gm_tu (vs V s) = vs V (gm_tu s) := by
  unfold gm_tu
  rw [show gm_P (vs V s) = gm_P s from gm_P_mk _ _ _ _ _]
  cases gm_P s with
  | nil => rfl
  | cons p q =>
    unfold vs
    simp only [gm_X_mk, gm_F_mk, gm_T_mk, gm_D_mk, gm_P_mk, vT_rot]
theorem vs_2 : ((gm_X (vs V s), gm_F (vs V s), gm_T (vs V s), gm_D (vs V s) - 1, gm_P (vs V s)) : gm_S) = vs V (gm_X s, gm_F s, gm_T s, gm_D s - 1, gm_P s) := by
  unfold vs
  simp only [gm_X_mk, gm_F_mk, gm_T_mk, gm_D_mk, gm_P_mk]
/-- a node comes -/
theorem vs_c {k v : Int} (hk : 0 ≤ k ∧ k < 10) {s0 : gm_S} (h : gm_c k v s0 = some t) (e1 : gm_T s0 = gm_T s) (e2 : gm_D s0 = gm_D s) (e3 : gm_P s0 = gm_P s) : gm_c k (V (gm_len s)) (vs V s) = some (vs V t) := by
  obtain ⟨-, -, t1, t2, t3⟩ := gm_c_t h
  have l := (gm_c_len h).1
  unfold gm_c
  rw [vs_T, vT_len, if_neg (by rw [← e1]; omega)]
  refine congrArg some ?_
  unfold vs
  simp only [gm_X_mk, gm_F_mk, gm_T_mk, gm_D_mk, gm_P_mk]
  rw [t1, t2, t3, e1, e2, e3, vT_app, vT_one hk]
  rfl
theorem vo_c {k v : Int} (hk : 0 ≤ k ∧ k < 10) (h : gm_c k v s = some t) (hV : vo V t) : V (gm_len s) = v := by
  obtain ⟨-, -, t1, -, -⟩ := gm_c_t h
  have := hV (k + 10 * ((gm_T s).length : Int), v, gm_D s) (by rw [t1]; exact List.mem_append_right _ List.mem_cons_self)
  dsimp only at this
  rw [show (k + 10 * ((gm_T s).length : Int)) / 10 = ((gm_T s).length : Int) by omega] at this
  exact this
theorem mem_rot {a b : Nat} {x : Int × Int × Int} (h : x ∈ T) : x ∈ gm_rot a b T := by
  unfold gm_rot
  by_cases c : a ≤ b ∧ b ≤ T.length
  · rw [if_pos c]
    have e : T = T.take a ++ (T.take b).drop a ++ T.drop b := by
      have e1 : T.take a = (T.take b).take a := by rw [List.take_take, Nat.min_eq_left c.1]
      rw [e1, List.take_append_drop, List.take_append_drop]
    rw [e] at h
    simp only [List.mem_append] at h ⊢
    rcases h with (h | h) | h
    · exact Or.inl (Or.inl h)
    · exact Or.inr h
    · exact Or.inl (Or.inr h)
  · rw [if_neg c]
    exact h
theorem mem_rot' {a b : Nat} {x : Int × Int × Int} (h : x ∈ gm_rot a b T) : x ∈ T := by
  unfold gm_rot at h
  by_cases c : a ≤ b ∧ b ≤ T.length
  · rw [if_pos c] at h
    simp only [List.mem_append] at h
    rcases h with (h | h) | h
    · exact List.mem_of_mem_take h
    · exact List.mem_of_mem_drop h
    · exact List.mem_of_mem_take (List.mem_of_mem_drop h)
  · rw [if_neg c] at h
    exact h
theorem gm_tu_mem {x : Int × Int × Int} (h : x ∈ gm_T s) : x ∈ gm_T (gm_tu s) := by
  unfold gm_tu
  cases gm_P s with
  | nil => exact h
  | cons p q =>
    rw [gm_T_mk]
    exact mem_rot h
theorem gm_mid_T : gm_T (gm_mid s) = gm_T s := by unfold gm_mid; rw [gm_T_mk]
theorem gm_op_t {o : Int} : gm_T (gm_op o s) = gm_T s := by
  unfold gm_op
  split
  · rw [gm_T_mk]
  · rfl
theorem gm_d_T : gm_T (gm_d s) = gm_T s := by unfold gm_d; rw [gm_T_mk]
theorem gm_op_e {o : Int} : gm_D (gm_op o s) = gm_D s ∧ gm_len (gm_op o s) = gm_len s := by
  refine ⟨?_, by unfold gm_len; rw [gm_op_t]⟩
  unfold gm_op
  split
  · rw [gm_D_mk]
  · rfl
theorem gm_c_mem {k v : Int} (h : gm_c k v s = some t) {x : Int × Int × Int} (hx : x ∈ gm_T s) : x ∈ gm_T t := by
  obtain ⟨-, -, t1, -, -⟩ := gm_c_t h
  rw [t1]
  exact List.mem_append_left _ hx
end VS0
/-! what is grown -/
section VG
variable {V : Int → Int} {g : wk_g} {kw : Int → Bool} {s s1 : gm_S} {r r1 : List wk_E}
theorem gv_sg {u : Int} (h : gm_sg g kw u r s = some (r1, s1)) (hV : vo V s1) : dm_sg 0 g V u r (vs V s) = some (r1, vs V s1) ∧ ∀ x ∈ gm_T s, x ∈ gm_T s1 := by
  unfold gm_sg at h
  unfold dm_sg
  by_cases c9 : g 119 u.toNat = 9
  · rw [if_pos c9] at h ⊢
    unfold gm_en at h
    unfold pm_en
    by_cases cu : 12 ≤ wk_ul r
    · rw [if_pos cu] at h
      cases h
    · rw [if_neg cu] at h
      rw [if_neg (by omega)]
      obtain ⟨t, h1, h2⟩ := Option.map_eq_some_iff.mp h
      injection h2 with h3 h4
      subst h3
      subst h4
      have hVt : vo V t := fun x hx => hV x (by rw [gm_d_T]; exact hx)
      have hv := vo_c (by decide) h1 hVt
      have el : gm_len ((gm_X s, gm_F s - 1, gm_T s, gm_D s, gm_P s) : gm_S) = gm_len s := by unfold gm_len; rw [gm_T_mk]
      rw [el] at hv
      have := vs_c (V := V) (s := s) (by decide) h1 (gm_T_mk _ _ _ _ _) (gm_D_mk _ _ _ _ _) (gm_P_mk _ _ _ _ _)
      rw [hv] at this
      rw [this, Option.map_some, vs_d]
      refine ⟨rfl, fun x hx => ?_⟩
      rw [gm_d_T]
      exact gm_c_mem h1 (by rw [gm_T_mk]; exact hx)
  · rw [if_neg c9] at h ⊢
    by_cases c10 : g 119 u.toNat = 10
    · rw [if_pos c10] at h ⊢
      injection h with h
      injection h with h1 h2
      subst h1
      subst h2
      exact ⟨rfl, fun x hx => hx⟩
    · rw [if_neg c10] at h ⊢
      unfold dm_lf
      by_cases c1 : g 119 u.toNat = 1
      · rw [if_pos c1] at h ⊢
        generalize gm_x (gm_X s) = y at h
        generalize gm_v y 10000 = v at h
        obtain ⟨t, h1, h2⟩ := Option.map_eq_some_iff.mp h
        injection h2 with h3 h4
        subst h3
        subst h4
        rw [vs_len, vs_c (V := V) (s := s) (by decide) h1 (gm_T_mk _ _ _ _ _) (gm_D_mk _ _ _ _ _) (gm_P_mk _ _ _ _ _)]
        exact ⟨rfl, fun x hx => gm_c_mem h1 (by rw [gm_T_mk]; exact hx)⟩
      · rw [if_neg c1] at h ⊢
        by_cases c2 : g 119 u.toNat = 2
        · rw [if_pos c2] at h ⊢
          generalize (gm_nm kw (gm_X s)).1 = v at h
          generalize (gm_nm kw (gm_X s)).2 = y at h
          obtain ⟨t, h1, h2⟩ := Option.map_eq_some_iff.mp h
          injection h2 with h3 h4
          subst h3
          subst h4
          rw [vs_len, vs_c (V := V) (s := s) (by decide) h1 (gm_T_mk _ _ _ _ _) (gm_D_mk _ _ _ _ _) (gm_P_mk _ _ _ _ _)]
          exact ⟨rfl, fun x hx => gm_c_mem h1 (by rw [gm_T_mk]; exact hx)⟩
        · rw [if_neg c2] at h ⊢
          injection h with h
          injection h with h1 h2
          subst h1
          subst h2
          exact ⟨rfl, fun x hx => hx⟩
theorem gv_st {e : wk_E} (hb : e.1 = 1 → 1 < g 130 e.2.1.toNat → g 130 e.2.1.toNat ≤ 10000) (h : gm_st g kw e r s = some (r1, s1)) (hV : vo V s1) : dm_st g V 0 e r (vs V s) = some (r1, vs V s1) ∧ ∀ x ∈ gm_T s, x ∈ gm_T s1 := by
  unfold gm_st at h
  unfold dm_st
  by_cases c0 : e.1 = 0
  · rw [if_pos c0] at h ⊢
    unfold dm_u
    have yT : gm_T (gm_y (gm_op e.2.2 s)) = gm_T (gm_op e.2.2 s) := by unfold gm_y; rw [gm_T_mk]
    have yD : gm_D (gm_y (gm_op e.2.2 s)) = gm_D (gm_op e.2.2 s) := by unfold gm_y; rw [gm_D_mk]
    have yP : gm_P (gm_y (gm_op e.2.2 s)) = gm_P (gm_op e.2.2 s) := by unfold gm_y; rw [gm_P_mk]
    have el : gm_len (gm_y (gm_op e.2.2 s)) = gm_len (gm_op e.2.2 s) := by unfold gm_len; rw [yT]
    rw [vs_op]
    by_cases c1 : g 122 e.2.1.toNat = 1
    · rw [if_pos c1] at h ⊢
      generalize gm_n 3 s = n at h
      generalize gm_y (gm_op e.2.2 s) = sy at h yT yD yP el
      obtain ⟨t, h1, h2⟩ := Option.map_eq_some_iff.mp h
      injection h2 with h3 h4
      subst h3
      subst h4
      have hVt : vo V t := fun x hx => hV x (by rw [gm_d_T]; exact hx)
      have hv := vo_c (by decide) h1 hVt
      rw [el] at hv
      have := vs_c (V := V) (s := gm_op e.2.2 s) (by decide) h1 yT yD yP
      rw [vs_len, this, Option.map_some, vs_d, hv]
      refine ⟨rfl, fun x hx => ?_⟩
      rw [gm_d_T]
      exact gm_c_mem h1 (by rw [yT, gm_op_t]; exact hx)
    · rw [if_neg c1] at h ⊢
      by_cases c2 : g 122 e.2.1.toNat = 2
      · rw [if_pos c2] at h ⊢
        generalize gm_n 2 s = n at h
        generalize gm_y (gm_op e.2.2 s) = sy at h yT yD yP el
        obtain ⟨t, h1, h2⟩ := Option.bind_eq_some_iff.mp h
        have hc := vs_c (V := V) (s := gm_op e.2.2 s) (by decide) h1 yT yD yP
        have mem : ∀ x ∈ gm_T s, x ∈ gm_T (gm_d t) := fun x hx => by
          rw [gm_d_T]
          exact gm_c_mem h1 (by rw [yT, gm_op_t]; exact hx)
        by_cases cn : 0 < n
        · rw [if_pos cn] at h2
          obtain ⟨i1, i2⟩ := gv_sg h2 hV
          have hVt : vo V t := fun x hx => hV x (i2 x (by rw [gm_d_T]; exact hx))
          have hv := vo_c (by decide) h1 hVt
          rw [el] at hv
          rw [vs_len, hc, Option.bind_some, hv, if_pos cn, vs_d]
          exact ⟨i1, fun x hx => i2 x (mem x hx)⟩
        · rw [if_neg cn] at h2
          injection h2 with h2
          injection h2 with h3 h4
          subst h3
          subst h4
          have hVt : vo V t := fun x hx => hV x (by rw [gm_d_T]; exact hx)
          have hv := vo_c (by decide) h1 hVt
          rw [el] at hv
          rw [vs_len, hc, Option.bind_some, hv, if_neg cn, vs_d]
          exact ⟨rfl, mem⟩
      · rw [if_neg c2] at h ⊢
        obtain ⟨i1, i2⟩ := gv_sg h hV
        exact ⟨i1, fun x hx => i2 x (by rw [gm_op_t]; exact hx)⟩
  · rw [if_neg c0] at h ⊢
    by_cases c1 : e.1 = 1
    · rw [if_pos c1] at h ⊢
      unfold dm_fo
      by_cases cf : 1 < g 130 e.2.1.toNat
      · rw [if_pos cf] at h ⊢
        have wb := gm_w_b (g := g) gm_vbt (f := e.2.1) (by omega) (hb c1 cf) s
        have yT : gm_T (gm_y s) = gm_T s := by unfold gm_y; rw [gm_T_mk]
        have yD : gm_D (gm_y s) = gm_D s := by unfold gm_y; rw [gm_D_mk]
        have yP : gm_P (gm_y s) = gm_P s := by unfold gm_y; rw [gm_P_mk]
        have el : gm_len (gm_y s) = gm_len s := by unfold gm_len; rw [yT]
        generalize gm_w g e.2.1 s = n at h wb
        generalize gm_y s = sy at h yT yD yP el
        obtain ⟨t, h1, h2⟩ := Option.map_eq_some_iff.mp h
        injection h2 with h3 h4
        subst h3
        subst h4
        have hVt : vo V t := fun x hx => hV x (by rw [gm_d_T]; exact hx)
        have hv := vo_c (by decide) h1 hVt
        rw [el] at hv
        have := vs_c (V := V) (s := s) (by decide) h1 yT yD yP
        rw [vs_len, hv, if_pos wb]
        rw [hv] at this
        rw [this, Option.map_some, vs_d]
        refine ⟨rfl, fun x hx => ?_⟩
        rw [gm_d_T]
        exact gm_c_mem h1 (by rw [yT]; exact hx)
      · rw [if_neg cf] at h ⊢
        injection h with h
        injection h with h3 h4
        subst h3
        subst h4
        exact ⟨rfl, fun x hx => hx⟩
    · rw [if_neg c1] at h ⊢
      by_cases c5 : e.1 = 5
      · rw [if_pos c5] at h ⊢
        unfold dm_ag
        by_cases ca : 0 < e.2.2
        · rw [if_pos ca] at h ⊢
          exact gv_sg h hV
        · rw [if_neg ca] at h ⊢
          injection h with h
          injection h with h3 h4
          subst h3
          subst h4
          exact ⟨rfl, fun x hx => hx⟩
      · rw [if_neg c5] at h ⊢
        by_cases c2 : e.1 = 2
        · rw [if_pos c2] at h ⊢
          injection h with h
          injection h with h3 h4
          subst h3
          subst h4
          rw [vs_2]
          exact ⟨rfl, fun x hx => by rw [gm_T_mk]; exact hx⟩
        · rw [if_neg c2] at h ⊢
          by_cases c3 : e.1 = 3
          · rw [if_pos c3] at h ⊢
            injection h with h
            injection h with h3 h4
            subst h3
            subst h4
            rw [vs_mid]
            exact ⟨rfl, fun x hx => by rw [gm_mid_T]; exact hx⟩
          · rw [if_neg c3] at h ⊢
            injection h with h
            injection h with h3 h4
            subst h3
            subst h4
            rw [vs_tu]
            exact ⟨rfl, fun x hx => gm_tu_mem hx⟩
theorem gv_to {Y : wk_Y} (hL : wk_L g Y) (h3 : ∀ f, 0 ≤ f → f < wk_f Y → g 130 f.toNat ≤ 10000) {B' : List wk_E} {s' : gm_S} (hV : vo V s') : ∀ (n : Nat) (c : gm_C), gm_K Y c.1 → gm_to g kw n c (B', s') → pw_to (dm_st g V 0) n (c.1, vs V c.2) (B', vs V s') ∧ ∀ x ∈ gm_T c.2, x ∈ gm_T s' := by
  intro n
  induction n with
  | zero =>
    intro c _ h
    have h : c = (B', s') := h
    subst h
    exact ⟨rfl, fun x hx => hx⟩
  | succ n ih =>
    intro c hK h
    obtain ⟨e, r, c1, a1, a2, a3⟩ := h
    have hK1 : gm_K Y c1.1 := (gm_to_pot hL gm_vbt h3 1 c hK ⟨e, r, c1, a1, a2, rfl⟩).1
    obtain ⟨i1, i2⟩ := ih c1 hK1 a3
    have hV1 : vo V c1.2 := fun x hx => hV x (i2 x hx)
    have hb : e.1 = 1 → 1 < g 130 e.2.1.toNat → g 130 e.2.1.toNat ≤ 10000 := by
      intro q _
      rw [a1] at hK
      obtain ⟨k1, k2, -⟩ := hK.1.2.1 q
      exact h3 _ k1 k2
    obtain ⟨j1, j2⟩ := gv_st hb a2 hV1
    refine ⟨⟨e, r, (c1.1, vs V c1.2), a1, j1, i1⟩, fun x hx => i2 x (j2 x hx)⟩
end VG
/-! what is parsed is a replay of what was made -/
def vl (T : List (Int × Int × Int)) (a : Int) : Int := ((T[a.toNat]?).map (fun x => x.2.1)).getD 0
def cv1 (V : Int → Int) (T : List (Int × Int × Int)) (e : wk_E) : wk_E := if e.1 = 5 then (5, e.2.1, V e.2.2 - vl T e.2.2) else e
def cv (V : Int → Int) (T : List (Int × Int × Int)) (B : List wk_E) : List wk_E := B.map (cv1 V T)
/-- the open ones stand in their order -/
def pm_lt : List wk_E → Prop
  | [] => True
  | e :: r => (e.1 = 5 → ∀ x ∈ r, x.1 = 5 → x.2.2 < e.2.2) ∧ pm_lt r
/-- values so far: at most V's, and V's unless it is open -/
def okp (V : Int → Int) (B : List wk_E) (T : List (Int × Int × Int)) : Prop := ∀ x ∈ T, x.2.1 ≤ V (x.1 / 10) ∧ ((∀ z ∈ B, z.1 = 5 → z.2.2 ≠ x.1 / 10) → V (x.1 / 10) = x.2.1)
section VP0
variable {V : Int → Int} {T : List (Int × Int × Int)} {B r : List wk_E}
theorem cv_app {P : List wk_E} : cv V T (P ++ r) = cv V T P ++ cv V T r := List.map_append
theorem cv_n5 (h : ∀ z ∈ B, z.1 ≠ 5) : cv V T B = B := by
  induction B with
  | nil => rfl
  | cons e B ih =>
    show cv1 V T e :: cv V T B = e :: B
    rw [ih (fun z hz => h z (List.mem_cons_of_mem _ hz))]
    unfold cv1
    rw [if_neg (h e List.mem_cons_self)]
theorem cv_eq2 {T' : List (Int × Int × Int)} (h : ∀ z ∈ B, z.1 = 5 → vl T' z.2.2 = vl T z.2.2) : cv V T' B = cv V T B := by
  induction B with
  | nil => rfl
  | cons e B ih =>
    show cv1 V T' e :: cv V T' B = cv1 V T e :: cv V T B
    rw [ih (fun z hz => h z (List.mem_cons_of_mem _ hz))]
    unfold cv1
    by_cases c : e.1 = 5
    · rw [if_pos c, if_pos c, h e List.mem_cons_self c]
    · rw [if_neg c, if_neg c]
theorem cv_ul : wk_ul (cv V T B) = wk_ul B := by
  induction B with
  | nil => rfl
  | cons e B ih =>
    obtain ⟨a, b, c⟩ := e
    show wk_ul (cv1 V T (a, b, c) :: cv V T B) = wk_ul ((a, b, c) :: B)
    unfold cv1
    dsimp only
    by_cases h5 : a = 5
    · rw [if_pos h5, h5, wk_ul_c (show (5 : Int) ≠ 2 by decide), wk_ul_c (show (5 : Int) ≠ 2 by decide), ih]
    · rw [if_neg h5]
      by_cases h2 : a = 2
      · subst h2
        rw [wk_ul_o, wk_ul_o, ih]
      · rw [wk_ul_c h2, wk_ul_c h2, ih]
theorem vT_up {a : Nat} : ∀ (T : List (Int × Int × Int)) (a : Nat), vT V (pm_up a T) = vT V T := by
  intro T
  induction T with
  | nil => intro a; cases a <;> rfl
  | cons x T ih =>
    intro a
    cases a with
    | zero => rfl
    | succ a =>
      show (x.1, V (x.1 / 10), x.2.2) :: vT V (pm_up a T) = (x.1, V (x.1 / 10), x.2.2) :: vT V T
      rw [ih]
theorem pm_up_mem {x : Int × Int × Int} : ∀ (T : List (Int × Int × Int)) (a : Nat), x ∈ T → ∃ y ∈ pm_up a T, y.1 = x.1 ∧ x.2.1 ≤ y.2.1 := by
  intro T
  induction T with
  | nil => intro a h; cases h
  | cons z T ih =>
    intro a h
    cases a with
    | zero =>
      rcases List.mem_cons.mp h with rfl | h
      · exact ⟨_, List.mem_cons_self, rfl, by show x.2.1 ≤ x.2.1 + 1; omega⟩
      · exact ⟨x, List.mem_cons_of_mem _ h, rfl, Int.le_refl _⟩
    | succ a =>
      rcases List.mem_cons.mp h with rfl | h
      · exact ⟨_, List.mem_cons_self, rfl, Int.le_refl _⟩
      · obtain ⟨y, y1, y2⟩ := ih a h
        exact ⟨y, List.mem_cons_of_mem _ y1, y2⟩
theorem pm_up_mem2 {x : Int × Int × Int} : ∀ (T : List (Int × Int × Int)) (a : Nat), x ∈ T → (∀ z, T[a]? = some z → z.1 ≠ x.1) → x ∈ pm_up a T := by
  intro T
  induction T with
  | nil => intro a h; cases h
  | cons z T ih =>
    intro a h hz
    cases a with
    | zero =>
      rcases List.mem_cons.mp h with rfl | h
      · exact absurd rfl (hz x rfl)
      · exact List.mem_cons_of_mem _ h
    | succ a =>
      rcases List.mem_cons.mp h with rfl | h
      · exact List.mem_cons_self
      · exact List.mem_cons_of_mem _ (ih a h (fun w hw => hz w hw))
theorem pm_up_mem3 {x : Int × Int × Int} : ∀ (T : List (Int × Int × Int)) (a : Nat), x ∈ pm_up a T → ∃ y ∈ T, y.1 = x.1 := by
  intro T
  induction T with
  | nil => intro a h; cases a <;> cases h
  | cons z T ih =>
    intro a h
    cases a with
    | zero =>
      rcases List.mem_cons.mp h with rfl | h
      · exact ⟨z, List.mem_cons_self, rfl⟩
      · exact ⟨x, List.mem_cons_of_mem _ h, rfl⟩
    | succ a =>
      rcases List.mem_cons.mp h with rfl | h
      · exact ⟨x, List.mem_cons_self, rfl⟩
      · obtain ⟨y, y1, y2⟩ := ih a h
        exact ⟨y, List.mem_cons_of_mem _ y1, y2⟩
theorem pm_it_c {g : wk_g} : ∀ (n : Nat) (u : Int), ∀ x ∈ wk_it g n u, 0 ≤ x.1 ∧ x.1 ≤ 5 := by
  intro n
  induction n with
  | zero => intro u x hx; cases hx
  | succ n ih =>
    intro u x hx
    unfold wk_it at hx
    split at hx
    · cases hx
    · split at hx
      · simp only [List.mem_cons] at hx
        rcases hx with rfl | rfl | rfl | rfl | hx
        · exact ⟨show (0 : Int) ≤ 0 by decide, show (0 : Int) ≤ 5 by decide⟩
        · exact ⟨show (0 : Int) ≤ 3 by decide, show (3 : Int) ≤ 5 by decide⟩
        · exact ⟨show (0 : Int) ≤ 0 by decide, show (0 : Int) ≤ 5 by decide⟩
        · exact ⟨show (0 : Int) ≤ 4 by decide, show (4 : Int) ≤ 5 by decide⟩
        · exact ih _ x hx
      · simp only [List.mem_cons] at hx
        rcases hx with rfl | hx
        · exact ⟨show (0 : Int) ≤ 0 by decide, show (0 : Int) ≤ 5 by decide⟩
        · exact ih _ x hx
theorem pm_lt_app {P : List wk_E} (h : ∀ z ∈ P, z.1 ≠ 5) (hr : pm_lt r) : pm_lt (P ++ r) := by
  induction P with
  | nil => exact hr
  | cons e P ih => exact ⟨fun q => absurd q (h e List.mem_cons_self), ih (fun z hz => h z (List.mem_cons_of_mem _ hz))⟩
end VP0
section VP1
variable {V : Int → Int} {g : wk_g} {E : pm_E} {s s1 : gm_S} {r r1 : List wk_E}
theorem nP2 {a b c a' b' c' : Int} (h : a ≠ 5) (h' : a' ≠ 5) : ∀ z ∈ ([(a, b, c), (a', b', c')] : List wk_E), z.1 ≠ 5 := fun z hz => by
  rcases List.mem_cons.mp hz with rfl | hz
  · exact h
  · rw [List.mem_singleton.mp hz]
    exact h'
theorem nP1 {a b c : Int} (h : a ≠ 5) : ∀ z ∈ ([(a, b, c)] : List wk_E), z.1 ≠ 5 := fun z hz => by
  rw [List.mem_singleton.mp hz]
  exact h
/-- a node that comes, as what is appended -/
theorem pv_c {k v : Int} {t : gm_S} (hk : 0 ≤ k ∧ k < 10) (h : gm_c k v s = some t) : ∃ A, gm_T t = gm_T s ++ A ∧ (∀ x ∈ A, 0 ≤ x.1 ∧ x.1 / 10 = gm_len s ∧ x.2.1 = v) ∧ gm_len t = gm_len s + 1 ∧ ∃ d, A = [(k + 10 * gm_len s, v, d)] := by
  obtain ⟨-, -, t1, -, -⟩ := gm_c_t h
  refine ⟨_, t1, fun x hx => ?_, ?_, gm_D s, rfl⟩
  · rw [List.mem_singleton.mp hx]
    refine ⟨?_, ?_, rfl⟩
    · show 0 ≤ k + 10 * ((gm_T s).length : Int)
      omega
    · show (k + 10 * ((gm_T s).length : Int)) / 10 = ((gm_T s).length : Int)
      omega
  · have := (gm_c_len h).2
    unfold gm_len
    omega
theorem pv_sg {u : Int} (h : pm_sg 0 g E u r s = some (r1, s1)) : ∃ P A, r1 = P ++ r ∧ (∀ z ∈ P, z.1 ≠ 5 ∧ 0 ≤ z.1 ∧ z.1 ≤ 5) ∧ gm_T s1 = gm_T s ++ A ∧ (∀ x ∈ A, 0 ≤ x.1 ∧ x.1 / 10 = gm_len s ∧ gm_len s < gm_len s1) ∧ gm_len s ≤ gm_len s1 ∧ ((∀ x ∈ A, V (x.1 / 10) = x.2.1) → ∀ r', wk_ul r' = wk_ul r → dm_sg 0 g V u r' (vs V s) = some (P ++ r', vs V s1)) := by
  unfold pm_sg at h
  unfold dm_sg
  by_cases c9 : g 119 u.toNat = 9
  · rw [if_pos c9] at h
    unfold pm_en at h
    by_cases cu : 12 ≤ 0 + wk_ul r
    · rw [if_pos cu] at h
      cases h
    · rw [if_neg cu] at h
      obtain ⟨t, h1, h2⟩ := Option.map_eq_some_iff.mp h
      injection h2 with h3 h4
      subst h3
      subst h4
      obtain ⟨A, a1, a2, a3, -⟩ := pv_c (by decide) h1
      have el : gm_len (gm_d t) = gm_len t := gm_d_e.1
      refine ⟨[(1, _, 0), (2, 1, 0)], A, rfl, fun z hz => ?_, by rw [gm_d_T]; exact a1, fun x hx => ⟨(a2 x hx).1, (a2 x hx).2.1, by omega⟩, by omega, fun hA r' hr => ?_⟩
      · refine ⟨nP2 (by decide) (by decide) z hz, ?_⟩
        rcases List.mem_cons.mp hz with rfl | hz
        · exact ⟨show (0 : Int) ≤ 1 by decide, show (1 : Int) ≤ 5 by decide⟩
        · rw [List.mem_singleton.mp hz]
          exact ⟨show (0 : Int) ≤ 2 by decide, show (2 : Int) ≤ 5 by decide⟩
      · rw [if_pos c9]
        unfold pm_en
        rw [hr, if_neg cu]
        obtain ⟨-, -, t1, -, -⟩ := gm_c_t h1
        have eA : A = [(1 + 10 * ((gm_T s).length : Int), g 115 (g 120 u.toNat).toNat, gm_D s)] := List.append_cancel_left (a1.symm.trans t1)
        have hv := hA _ (by rw [eA]; exact List.mem_cons_self)
        dsimp only at hv
        rw [show (1 + 10 * ((gm_T s).length : Int)) / 10 = ((gm_T s).length : Int) by omega] at hv
        have hv : V (gm_len s) = g 115 (g 120 u.toNat).toNat := hv
        have := vs_c (V := V) (s := s) (by decide) h1 rfl rfl rfl
        rw [hv] at this
        rw [this, Option.map_some, vs_d]
        rfl
  · rw [if_neg c9] at h
    by_cases c10 : g 119 u.toNat = 10
    · rw [if_pos c10] at h
      injection h with h
      injection h with h1 h2
      subst h1
      subst h2
      refine ⟨[(1, g 120 u.toNat, 0)], [], rfl, fun z hz => ?_, (List.append_nil _).symm, fun x hx => (by cases hx), Int.le_refl _, fun _ r' _ => ?_⟩
      · rw [List.mem_singleton.mp hz]
        exact ⟨show (1 : Int) ≠ 5 by decide, show (0 : Int) ≤ 1 by decide, show (1 : Int) ≤ 5 by decide⟩
      · rw [if_neg c9, if_pos c10]
        rfl
    · rw [if_neg c10] at h
      obtain ⟨t, h1, h2⟩ := Option.map_eq_some_iff.mp h
      injection h2 with h3 h4
      subst h3
      subst h4
      unfold pm_lf at h1
      -- a node of kind k
      have node : ∀ k v t', (0 ≤ k ∧ k < 10) → (∀ w : gm_S, gm_c k (V (gm_len s)) (vs V s) = some w → dm_lf V (g 119 u.toNat) (vs V s) = some w) → (gm_c k v s).map pm_nx = some t' → ∃ P A, r = P ++ r ∧ (∀ z ∈ P, z.1 ≠ 5 ∧ 0 ≤ z.1 ∧ z.1 ≤ 5) ∧ gm_T t' = gm_T s ++ A ∧ (∀ x ∈ A, 0 ≤ x.1 ∧ x.1 / 10 = gm_len s ∧ gm_len s < gm_len t') ∧ gm_len s ≤ gm_len t' ∧ ((∀ x ∈ A, V (x.1 / 10) = x.2.1) → ∀ r', wk_ul r' = wk_ul r → (if g 119 u.toNat = 9 then pm_en 0 g (g 115 (g 120 u.toNat).toNat) r' (vs V s) else if g 119 u.toNat = 10 then some ((1, g 120 u.toNat, 0) :: r', vs V s) else (dm_lf V (g 119 u.toNat) (vs V s)).map (fun t => (r', t))) = some (P ++ r', vs V t')) := by
        intro k v t' hk hd h
        obtain ⟨t, h1, h2⟩ := Option.map_eq_some_iff.mp h
        subst h2
        obtain ⟨A, a1, a2, a3, -⟩ := pv_c hk h1
        obtain ⟨n1, n2, n3, n4⟩ := pm_nx_e (s := t)
        have el : gm_len (pm_nx t) = gm_len t := by unfold gm_len; rw [n2]
        refine ⟨[], A, rfl, fun z hz => (by cases hz), by rw [n2]; exact a1, fun x hx => ⟨(a2 x hx).1, (a2 x hx).2.1, by omega⟩, by omega, fun _ r' _ => ?_⟩
        rw [if_neg c9, if_neg c10, hd _ (vs_c (V := V) (s := s) hk h1 rfl rfl rfl), vs_e n2 n3 n4]
        rfl
      -- nothing comes
      have no : ∀ t', (gm_T t' = gm_T s ∧ gm_D t' = gm_D s ∧ gm_P t' = gm_P s) → g 119 u.toNat ≠ 1 → g 119 u.toNat ≠ 2 → ∃ P A, r = P ++ r ∧ (∀ z ∈ P, z.1 ≠ 5 ∧ 0 ≤ z.1 ∧ z.1 ≤ 5) ∧ gm_T t' = gm_T s ++ A ∧ (∀ x ∈ A, 0 ≤ x.1 ∧ x.1 / 10 = gm_len s ∧ gm_len s < gm_len t') ∧ gm_len s ≤ gm_len t' ∧ ((∀ x ∈ A, V (x.1 / 10) = x.2.1) → ∀ r', wk_ul r' = wk_ul r → (if g 119 u.toNat = 9 then pm_en 0 g (g 115 (g 120 u.toNat).toNat) r' (vs V s) else if g 119 u.toNat = 10 then some ((1, g 120 u.toNat, 0) :: r', vs V s) else (dm_lf V (g 119 u.toNat) (vs V s)).map (fun t => (r', t))) = some (P ++ r', vs V t')) := by
        intro t' ⟨e1, e2, e3⟩ n1 n2
        have el : gm_len t' = gm_len s := by unfold gm_len; rw [e1]
        refine ⟨[], [], rfl, fun z hz => (by cases hz), by rw [e1, List.append_nil], fun x hx => (by cases hx), by omega, fun _ r' _ => ?_⟩
        rw [if_neg c9, if_neg c10, vs_e e1 e2 e3]
        unfold dm_lf
        rw [if_neg n1, if_neg n2]
        rfl
      by_cases c1 : g 119 u.toNat = 1
      · rw [if_pos c1] at h1
        split at h1
        · exact node 2 _ _ (by decide) (fun w hw => by unfold dm_lf; rw [if_pos c1, vs_len]; exact hw) h1
        · cases h1
      · rw [if_neg c1] at h1
        by_cases c2 : g 119 u.toNat = 2
        · rw [if_pos c2] at h1
          split at h1
          · exact node 3 _ _ (by decide) (fun w hw => by unfold dm_lf; rw [if_neg c1, if_pos c2, vs_len]; exact hw) h1
          · cases h1
        · rw [if_neg c2] at h1
          split at h1
          · split at h1
            · injection h1 with h1
              subst h1
              exact no _ ⟨pm_nx_e.2.1, pm_nx_e.2.2.1, pm_nx_e.2.2.2⟩ c1 c2
            · cases h1
          · injection h1 with h1
            subst h1
            exact no _ ⟨rfl, rfl, rfl⟩ c1 c2
end VP1
/-! the parsing walk's turns are those of the replay -/
def pv_w (c : gm_C) : Prop := (∀ e ∈ c.1, 0 ≤ e.1 ∧ e.1 ≤ 5) ∧ (∀ e ∈ c.1, e.1 = 5 → ∃ v d, (gm_T c.2)[e.2.2.toNat]? = some (5 + 10 * e.2.2, v, d)) ∧ pm_lt c.1 ∧ ∀ x ∈ gm_T c.2, 0 ≤ x.1 ∧ x.1 / 10 < gm_len c.2
section VP2
variable {V : Int → Int} {g : wk_g} {E : pm_E} {s s1 : gm_S} {r r1 : List wk_E}
theorem pv_a (hw : pv_w (r, s)) {z : wk_E} (hz : z ∈ r) (z5 : z.1 = 5) : 0 ≤ z.2.2 ∧ z.2.2 < gm_len s ∧ z.2.2.toNat < (gm_T s).length ∧ ∃ v d, (gm_T s)[z.2.2.toNat]? = some (5 + 10 * z.2.2, v, d) ∧ (5 + 10 * z.2.2, v, d) ∈ gm_T s := by
  obtain ⟨v, d, h⟩ := hw.2.1 z hz z5
  have hm := List.mem_of_getElem? h
  obtain ⟨t1, t2⟩ := hw.2.2.2 _ hm
  dsimp only at t1 t2
  have : z.2.2.toNat < (gm_T s).length := by
    by_cases c : z.2.2.toNat < (gm_T s).length
    · exact c
    · have h : (gm_T s)[z.2.2.toNat]? = some (5 + 10 * z.2.2, v, d) := h
      rw [List.getElem?_eq_none (by omega)] at h
      cases h
  exact ⟨by omega, by omega, this, v, d, h, hm⟩
/-- what is appended, and what is put on the stack -/
theorem pv_ap {P : List wk_E} {A : List (Int × Int × Int)} (hw : pv_w (r, s)) (hP : ∀ z ∈ P, z.1 ≠ 5 ∧ 0 ≤ z.1 ∧ z.1 ≤ 5) (hT : gm_T s1 = gm_T s ++ A) (hA : ∀ x ∈ A, 0 ≤ x.1 ∧ gm_len s ≤ x.1 / 10 ∧ x.1 / 10 < gm_len s1) (hl : gm_len s ≤ gm_len s1) : pv_w (P ++ r, s1) ∧ ∀ z ∈ r, z.1 = 5 → vl (gm_T s1) z.2.2 = vl (gm_T s) z.2.2 := by
  have get : ∀ z ∈ r, z.1 = 5 → (gm_T s1)[z.2.2.toNat]? = (gm_T s)[z.2.2.toNat]? := fun z hz z5 => by
    rw [hT, List.getElem?_append_left (pv_a hw hz z5).2.2.1]
  refine ⟨⟨fun e he => ?_, fun e he e5 => ?_, pm_lt_app (fun z hz => (hP z hz).1) hw.2.2.1, fun x hx => ?_⟩, fun z hz z5 => ?_⟩
  · rcases List.mem_append.mp he with he | he
    · exact (hP e he).2
    · exact hw.1 e he
  · rcases List.mem_append.mp he with he | he
    · exact absurd e5 (hP e he).1
    · obtain ⟨v, d, h⟩ := hw.2.1 e he e5
      exact ⟨v, d, (get e he e5).trans h⟩
  · have hx : x ∈ gm_T s1 := hx
    rw [hT] at hx
    rcases List.mem_append.mp hx with hx | hx
    · have := hw.2.2.2 x hx
      dsimp only at this ⊢
      omega
    · have := hA x hx
      dsimp only
      omega
  · unfold vl
    rw [get z hz z5]
/-- .. backwards: of the values -/
theorem okp_ap {A T T1 : List (Int × Int × Int)} (hT : T1 = T ++ A) (hz : ∀ x ∈ T, (∀ z ∈ r, z.1 = 5 → z.2.2 ≠ x.1 / 10) → ∀ z ∈ r1, z.1 = 5 → z.2.2 ≠ x.1 / 10) (hk : okp V r1 T1) : okp V r T := fun x hx => by
  obtain ⟨k1, k2⟩ := hk x (by rw [hT]; exact List.mem_append_left _ hx)
  exact ⟨k1, fun q => k2 (hz x hx q)⟩
theorem okp_P {P : List wk_E} (hP : ∀ z ∈ P, z.1 ≠ 5) {i : Int} (h : ∀ z ∈ r, z.1 = 5 → z.2.2 ≠ i) : ∀ z ∈ P ++ r, z.1 = 5 → z.2.2 ≠ i := fun z hz z5 => by
  rcases List.mem_append.mp hz with hz | hz
  · exact absurd z5 (hP z hz)
  · exact h z hz z5
theorem okp_cons {e : wk_E} {T : List (Int × Int × Int)} (h5 : e.1 ≠ 5) (h : okp V r T) : okp V (e :: r) T := fun x hx => ⟨(h x hx).1, fun hz => (h x hx).2 (fun z hz' z5 => hz z (List.mem_cons_of_mem _ hz') z5)⟩
theorem pv_tail {e : wk_E} (hw : pv_w (e :: r, s)) : pv_w (r, s) := ⟨fun z hz => hw.1 z (List.mem_cons_of_mem _ hz), fun z hz => hw.2.1 z (List.mem_cons_of_mem _ hz), hw.2.2.1.2, hw.2.2.2⟩
theorem pv_s {t : gm_S} (hw : pv_w (r, s)) (e : gm_T t = gm_T s) : pv_w (r, t) := by
  unfold pv_w gm_len at hw ⊢
  dsimp only at hw ⊢
  rw [e]
  exact hw
theorem rot_lt {a p q : Nat} {T : List (Int × Int × Int)} (h : a < p) : (gm_rot p q T)[a]? = T[a]? := by
  unfold gm_rot
  by_cases c : p ≤ q ∧ q ≤ T.length
  · rw [if_pos c, List.append_assoc, List.getElem?_append_left (by rw [List.length_take]; omega), List.getElem?_take_of_lt h]
  · rw [if_neg c]
/-- the new values that are no open ones' -/
theorem okp_new {A T T1 : List (Int × Int × Int)} {L : Int} (hT : T1 = T ++ A) (hA : ∀ x ∈ A, x.1 / 10 = L) (hL : ∀ z ∈ r1, z.1 = 5 → z.2.2 < L) (hk : okp V r1 T1) : ∀ x ∈ A, V (x.1 / 10) = x.2.1 := fun x hx => (hk x (by rw [hT]; exact List.mem_append_right _ hx)).2 (fun z hz z5 => by
  have := hL z hz z5
  have := hA x hx
  omega)
/-- a part by itself, from where it goes -/
theorem pv_sgs {u : Int} (hw : pv_w (r, s)) (h : pm_sg 0 g E u r s = some (r1, s1)) : pv_w (r1, s1) ∧ ∃ P, r1 = P ++ r ∧ (∀ z ∈ P, z.1 ≠ 5) ∧ cv V (gm_T s1) r = cv V (gm_T s) r ∧ (okp V r1 (gm_T s1) → okp V r (gm_T s) ∧ ∀ r', wk_ul r' = wk_ul r → dm_sg 0 g V u r' (vs V s) = some (P ++ r', vs V s1)) := by
  obtain ⟨P, A, p1, p2, p3, p4, p5, p6⟩ := pv_sg (V := V) h
  subst p1
  obtain ⟨w1, w3⟩ := pv_ap hw p2 p3 (fun x hx => by have := p4 x hx; omega) p5
  refine ⟨w1, P, rfl, fun z hz => (p2 z hz).1, cv_eq2 w3, fun hk => ⟨okp_ap p3 (fun x hx q => okp_P (fun z hz => (p2 z hz).1) q) hk, p6 (okp_new p3 (fun x hx => (p4 x hx).2.1) (fun z hz z5 => ?_) hk)⟩⟩
  rcases List.mem_append.mp hz with hz | hz
  · exact absurd z5 (p2 z hz).1
  · exact (pv_a hw hz z5).2.1
/-- a node, and what is open in it, over a stack -/
theorem pv_nd {k v : Int} {t : gm_S} {P : List wk_E} (hk0 : 0 ≤ k ∧ k < 10) (hw : pv_w (r, s)) (h1 : gm_c k v s = some t) (hP : ∀ z ∈ P, z.1 ≠ 5 ∧ 0 ≤ z.1 ∧ z.1 ≤ 5) : pv_w (P ++ r, gm_d t) ∧ (okp V (P ++ r) (gm_T (gm_d t)) → okp V r (gm_T s) ∧ V (gm_len s) = v) ∧ (∀ z ∈ r, z.1 = 5 → vl (gm_T (gm_d t)) z.2.2 = vl (gm_T s) z.2.2) := by
  obtain ⟨A, a1, a2, a3, d, a4⟩ := pv_c hk0 h1
  have ld : gm_len (gm_d t) = gm_len t := gm_d_e.1
  have aT : gm_T (gm_d t) = gm_T s ++ A := by rw [gm_d_T]; exact a1
  obtain ⟨w1, w3⟩ := pv_ap hw hP aT (fun x hx => by have := a2 x hx; omega) (by omega)
  refine ⟨w1, fun hk => ⟨okp_ap aT (fun x hx q => okp_P (fun z hz => (hP z hz).1) q) hk, ?_⟩, w3⟩
  have := okp_new aT (fun x hx => (a2 x hx).2.1) (fun z hz z5 => by
    rcases List.mem_append.mp hz with hz | hz
    · exact absurd z5 (hP z hz).1
    · exact (pv_a hw hz z5).2.1) hk _ (by rw [a4]; exact List.mem_cons_self)
  dsimp only at this
  rwa [show (k + 10 * gm_len s) / 10 = gm_len s by omega] at this
theorem n2P : ∀ z ∈ ([(2, 0, 0)] : List wk_E), z.1 ≠ 5 ∧ 0 ≤ z.1 ∧ z.1 ≤ 5 := fun z hz => by
  rw [List.mem_singleton.mp hz]
  exact ⟨show (2 : Int) ≠ 5 by decide, show (0 : Int) ≤ 2 by decide, show (2 : Int) ≤ 5 by decide⟩
theorem pv_st {e : wk_E} (hI : pm_I (e :: r, s)) (hw : pv_w (e :: r, s)) (h : pm_st g E 0 e r s = some (r1, s1)) : pv_w (r1, s1) ∧ (okp V r1 (gm_T s1) → okp V (e :: r) (gm_T s) ∧ dm_st g V 0 (cv1 V (gm_T s) e) (cv V (gm_T s) r) (vs V s) = some (cv V (gm_T s1) r1, vs V s1)) := by
  have hwr := pv_tail hw
  have hul : wk_ul (cv V (gm_T s) r) = wk_ul r := cv_ul
  unfold pm_st at h
  by_cases c0 : e.1 = 0
  · rw [if_pos c0] at h
    have n5 : e.1 ≠ 5 := by omega
    have e1 : cv1 V (gm_T s) e = e := by unfold cv1; rw [if_neg n5]
    rw [e1]
    unfold dm_st
    rw [if_pos c0, vs_op]
    have hwo : pv_w (r, gm_op e.2.2 s) := pv_s hwr gm_op_t
    have To : gm_T (gm_op e.2.2 s) = gm_T s := gm_op_t
    rw [← To] at hul ⊢
    generalize gm_op e.2.2 s = so at h hwo To hul ⊢
    unfold pm_u at h
    unfold dm_u
    by_cases c1 : g 122 e.2.1.toNat = 1
    · rw [if_pos c1] at h ⊢
      obtain ⟨t, h1, h2⟩ := Option.map_eq_some_iff.mp h
      injection h2 with h3 h4
      subst h3
      subst h4
      obtain ⟨A, a1, a2, a3, d, a4⟩ := pv_c (by decide) h1
      have aT : gm_T (gm_d t) = gm_T so ++ A := by rw [gm_d_T]; exact a1
      obtain ⟨w1, w2, w3⟩ := pv_nd (V := V) (P := [(2, 0, 0)]) (by decide) hwo h1 n2P
      have gl : gm_len so = ((gm_T so).length : Int) := rfl
      have hget : (gm_T (gm_d t))[(gm_len so).toNat]? = some (5 + 10 * gm_len so, 0, d) := by
        rw [aT, a4, show (gm_len so).toNat = (gm_T so).length by omega, List.getElem?_append_right (Nat.le_refl _), Nat.sub_self]
        rfl
      refine ⟨⟨fun z hz => ?_, fun z hz z5 => ?_, ⟨fun _ x hx x5 => ?_, w1.2.2.1⟩, w1.2.2.2⟩, fun hk => ⟨okp_cons n5 (okp_ap aT (fun x hx q => fun z hz z5 => ?_) hk), ?_⟩⟩
      · rcases List.mem_cons.mp hz with rfl | hz
        · exact ⟨show (0 : Int) ≤ 5 by decide, show (5 : Int) ≤ 5 by decide⟩
        · exact w1.1 z hz
      · rcases List.mem_cons.mp hz with rfl | hz
        · exact ⟨0, d, hget⟩
        · exact w1.2.1 z hz z5
      · rcases List.mem_cons.mp hx with rfl | hx
        · exact absurd x5 (show (2 : Int) ≠ 5 by decide)
        · exact (pv_a hwo hx x5).2.1
      · rcases List.mem_cons.mp hz with rfl | hz
        · have := (hwo.2.2.2 x hx).2
          dsimp only at this ⊢
          omega
        · rcases List.mem_cons.mp hz with rfl | hz
          · exact absurd z5 (show (2 : Int) ≠ 5 by decide)
          · exact q z hz z5
      · have := vs_c (V := V) (s := so) (by decide) h1 rfl rfl rfl
        rw [vs_len, this, Option.map_some, vs_d]
        have ec : cv V (gm_T (gm_d t)) ((5, e.2.1, gm_len so) :: (2, 0, 0) :: r) = (5, e.2.1, V (gm_len so)) :: (2, 0, 0) :: cv V (gm_T so) r := by
          show cv1 V (gm_T (gm_d t)) (5, e.2.1, gm_len so) :: cv1 V (gm_T (gm_d t)) (2, 0, 0) :: cv V (gm_T (gm_d t)) r = _
          rw [cv_eq2 w3]
          unfold cv1
          dsimp only
          rw [if_pos rfl, if_neg (show ¬ (2 : Int) = 5 by decide)]
          unfold vl
          rw [hget]
          show (5, e.2.1, V (gm_len so) - 0) :: _ = _
          rw [Int.sub_zero]
        rw [ec]
    · rw [if_neg c1] at h ⊢
      by_cases c2 : g 122 e.2.1.toNat = 2
      · rw [if_pos c2] at h ⊢
        obtain ⟨t, h1, h2⟩ := Option.bind_eq_some_iff.mp h
        obtain ⟨w1, w2, w3⟩ := pv_nd (V := V) (P := [(2, 0, 0)]) (by decide) hwo h1 n2P
        have hc := vs_c (V := V) (s := so) (by decide) h1 rfl rfl rfl
        by_cases ch : pm_h E e.2.1 so = true
        · rw [if_pos ch] at h2 w2
          obtain ⟨x1, P, x3, x4, x6, x7⟩ := pv_sgs (V := V) w1 h2
          refine ⟨x1, fun hk => ?_⟩
          obtain ⟨x2, x5⟩ := x7 hk
          obtain ⟨y1, y2⟩ := w2 x2
          refine ⟨okp_cons n5 y1, ?_⟩
          rw [vs_len, hc, Option.bind_some, y2, if_pos (by decide), vs_d, x5 ((2, 0, 0) :: cv V (gm_T so) r) (by
            show wk_ul ((2, 0, 0) :: cv V (gm_T so) r) = wk_ul ((2, 0, 0) :: r)
            rw [wk_ul_o, wk_ul_o, hul]), x3, cv_app, cv_n5 x4, x6]
          have ec : cv V (gm_T (gm_d t)) ([(2, 0, 0)] ++ r) = (2, 0, 0) :: cv V (gm_T so) r := by
            rw [cv_app, cv_n5 (fun z hz => (n2P z hz).1), cv_eq2 w3]
            rfl
          rw [ec]
        · rw [if_neg ch] at h2 w2
          injection h2 with h2
          injection h2 with h3 h4
          subst h3
          subst h4
          refine ⟨w1, fun hk => ?_⟩
          obtain ⟨y1, y2⟩ := w2 hk
          refine ⟨okp_cons n5 y1, ?_⟩
          rw [vs_len, hc, Option.bind_some, y2, if_neg (by decide), vs_d]
          have ec : cv V (gm_T (gm_d t)) ([(2, 0, 0)] ++ r) = (2, 0, 0) :: cv V (gm_T so) r := by
            rw [cv_app, cv_n5 (fun z hz => (n2P z hz).1), cv_eq2 w3]
            rfl
          rw [show ((2, 0, 0) :: r : List wk_E) = [(2, 0, 0)] ++ r from rfl, ec]
      · rw [if_neg c2] at h ⊢
        obtain ⟨x1, P, x3, x4, x6, x7⟩ := pv_sgs (V := V) hwo h
        refine ⟨x1, fun hk => ?_⟩
        obtain ⟨x2, x5⟩ := x7 hk
        refine ⟨okp_cons n5 x2, ?_⟩
        rw [x5 _ hul, x3, cv_app, cv_n5 x4, x6]
  · rw [if_neg c0] at h
    by_cases c1 : e.1 = 1
    · rw [if_pos c1] at h
      have n5 : e.1 ≠ 5 := by omega
      have e1 : cv1 V (gm_T s) e = e := by unfold cv1; rw [if_neg n5]
      rw [e1]
      unfold dm_st
      rw [if_neg c0, if_pos c1]
      unfold pm_fo at h
      unfold dm_fo
      by_cases cf : 1 < g 130 e.2.1.toNat
      · rw [if_pos cf] at h ⊢
        obtain ⟨n, h0, h⟩ := Option.bind_eq_some_iff.mp h
        unfold pm_w at h0
        obtain ⟨j, j1, j2, -⟩ := pm_dr_e _ _ _ _ h0
        obtain ⟨t, h1, h2⟩ := Option.map_eq_some_iff.mp h
        injection h2 with h3 h4
        subst h3
        subst h4
        obtain ⟨w1, w2, w3⟩ := pv_nd (V := V) (P := wk_it g 61 (g 126 (wk_alt g n.toNat (g 129 e.2.1.toNat)).toNat) ++ [(2, 0, 0)]) (by decide) hwr h1 (fun z hz => by
          rcases List.mem_append.mp hz with hz | hz
          · exact ⟨pm_it_5 _ _ z hz, pm_it_c _ _ z hz⟩
          · exact n2P z hz)
        rw [List.append_assoc] at w1 w2
        refine ⟨w1, fun hk => ?_⟩
        obtain ⟨y1, y2⟩ := w2 hk
        refine ⟨okp_cons n5 y1, ?_⟩
        have := vs_c (V := V) (s := s) (by decide) h1 rfl rfl rfl
        rw [y2] at this
        rw [vs_len, y2, if_pos ⟨by omega, by omega⟩, this, Option.map_some, vs_d, cv_app, cv_n5 (fun z hz => pm_it_5 _ _ z hz)]
        have ec : cv V (gm_T (gm_d t)) ([(2, 0, 0)] ++ r) = (2, 0, 0) :: cv V (gm_T s) r := by
          rw [cv_app, cv_n5 (fun z hz => (n2P z hz).1), cv_eq2 w3]
          rfl
        rw [show ((2, 0, 0) :: r : List wk_E) = [(2, 0, 0)] ++ r from rfl, ec]
      · rw [if_neg cf] at h ⊢
        injection h with h
        injection h with h3 h4
        subst h3
        subst h4
        obtain ⟨w1, w3⟩ := pv_ap (s1 := s) (A := []) (P := wk_it g 61 (g 126 (g 129 e.2.1.toNat).toNat)) hwr (fun z hz => ⟨pm_it_5 _ _ z hz, pm_it_c _ _ z hz⟩) (List.append_nil _).symm (fun x hx => by cases hx) (Int.le_refl _)
        refine ⟨w1, fun hk => ⟨okp_cons n5 (okp_ap (A := []) (List.append_nil _).symm (fun x hx q => okp_P (fun z hz => pm_it_5 _ _ z hz) q) hk), ?_⟩⟩
        rw [cv_app, cv_n5 (fun z hz => pm_it_5 _ _ z hz)]
    · rw [if_neg c1] at h
      by_cases c5 : e.1 = 5
      · rw [if_pos c5] at h
        obtain ⟨z0, z1, z2, v, d, zg, zm⟩ := pv_a hw List.mem_cons_self c5
        have evl : vl (gm_T s) e.2.2 = v := by unfold vl; rw [zg]; rfl
        have e1 : cv1 V (gm_T s) e = (5, e.2.1, V e.2.2 - v) := by unfold cv1; rw [if_pos c5, evl]
        have hlt := hw.2.2.1.1 c5
        rw [e1, dm_st_5]
        unfold pm_ag at h
        unfold dm_ag
        by_cases ch : pm_h E e.2.1 s = true
        · rw [if_pos ch] at h
          obtain ⟨i1, i2, i3, i4⟩ := pm_inc_e (s := s) (a := e.2.2)
          have il : gm_len (pm_inc e.2.2 s) = gm_len s := pm_inc_len
          have vi : vs V (pm_inc e.2.2 s) = vs V s := by
            unfold vs
            rw [i2, i3, i4, vT_up (a := 0)]
          have gi : (gm_T (pm_inc e.2.2 s))[e.2.2.toNat]? = some (5 + 10 * e.2.2, v + 1, d) := by
            rw [i2, pm_up_get, if_pos rfl, zg]
            rfl
          have gj : ∀ z ∈ r, z.1 = 5 → (gm_T (pm_inc e.2.2 s))[z.2.2.toNat]? = (gm_T s)[z.2.2.toNat]? := fun z hz z5 => by
            have := hlt z hz z5
            have := (pv_a hwr hz z5).1
            rw [i2, pm_up_get, if_neg (by omega)]
          have hwi : pv_w ((5, e.2.1, e.2.2) :: r, pm_inc e.2.2 s) := by
            refine ⟨fun z hz => ?_, fun z hz z5 => ?_, ⟨fun _ => hlt, hwr.2.2.1⟩, fun x hx => ?_⟩
            · rcases List.mem_cons.mp hz with rfl | hz
              · exact ⟨show (0 : Int) ≤ 5 by decide, show (5 : Int) ≤ 5 by decide⟩
              · exact hwr.1 z hz
            · rcases List.mem_cons.mp hz with rfl | hz
              · exact ⟨_, _, gi⟩
              · obtain ⟨v', d', h'⟩ := hwr.2.1 z hz z5
                exact ⟨v', d', (gj z hz z5).trans h'⟩
            · have hx : x ∈ gm_T (pm_inc e.2.2 s) := hx
              rw [i2] at hx
              obtain ⟨y, y1, y2⟩ := pm_up_mem3 _ _ hx
              have := hw.2.2.2 y y1
              dsimp only at this ⊢
              rw [il, ← y2]
              exact this
          obtain ⟨x1, P, x3, x4, x6, x7⟩ := pv_sgs (V := V) hwi h
          refine ⟨x1, fun hk => ?_⟩
          obtain ⟨x2, x5⟩ := x7 hk
          have k5 := (x2 _ (List.mem_of_getElem? gi)).1
          dsimp only at k5
          rw [show (5 + 10 * e.2.2) / 10 = e.2.2 by omega] at k5
          refine ⟨fun x hx => ?_, ?_⟩
          · obtain ⟨y, y1, y2, y3⟩ := pm_up_mem (gm_T s) e.2.2.toNat hx
            have ky := x2 y (by rw [i2]; exact y1)
            refine ⟨?_, fun q => ?_⟩
            · rw [← y2]
              omega
            · have hne : ∀ z, (gm_T s)[e.2.2.toNat]? = some z → z.1 ≠ x.1 := fun z hz => by
                rw [zg] at hz
                injection hz with hz
                subst hz
                intro q2
                have q2 : 5 + 10 * e.2.2 = x.1 := q2
                have := q e List.mem_cons_self c5
                omega
              have hxm := pm_up_mem2 (gm_T s) e.2.2.toNat hx hne
              refine (x2 x (by rw [i2]; exact hxm)).2 (fun z hz z5 => ?_)
              rcases List.mem_cons.mp hz with rfl | hz
              · exact q e List.mem_cons_self c5
              · exact q z (List.mem_cons_of_mem _ hz) z5
          · have key := x5 ((5, e.2.1, V e.2.2 - v - 1) :: cv V (gm_T s) r) (by rw [wk_ul_c (show (5 : Int) ≠ 2 by decide), wk_ul_c (show (5 : Int) ≠ 2 by decide), hul])
            rw [vi] at key
            rw [if_pos (by omega), key, x3, cv_app, cv_n5 x4, x6]
            have ec : cv V (gm_T (pm_inc e.2.2 s)) ((5, e.2.1, e.2.2) :: r) = (5, e.2.1, V e.2.2 - v - 1) :: cv V (gm_T s) r := by
              show cv1 V (gm_T (pm_inc e.2.2 s)) (5, e.2.1, e.2.2) :: cv V (gm_T (pm_inc e.2.2 s)) r = _
              rw [cv_eq2 (T := gm_T s) (fun z hz z5 => by unfold vl; rw [gj z hz z5])]
              unfold cv1
              dsimp only
              rw [if_pos rfl]
              unfold vl
              rw [gi]
              show (5, e.2.1, V e.2.2 - (v + 1)) :: _ = _
              rw [show V e.2.2 - (v + 1) = V e.2.2 - v - 1 by omega]
            rw [ec]
        · rw [if_neg ch] at h
          injection h with h
          injection h with h3 h4
          subst h3
          subst h4
          refine ⟨hwr, fun hk => ?_⟩
          have kk := (hk _ zm).2 (fun z hz z5 => by
            have := hlt z hz z5
            dsimp only
            omega)
          dsimp only at kk
          rw [show (5 + 10 * e.2.2) / 10 = e.2.2 by omega] at kk
          rw [if_neg (by omega)]
          exact ⟨fun x hx => ⟨(hk x hx).1, fun q => (hk x hx).2 (fun z hz z5 => q z (List.mem_cons_of_mem _ hz) z5)⟩, rfl⟩
      · rw [if_neg c5] at h
        have e1 : cv1 V (gm_T s) e = e := by unfold cv1; rw [if_neg c5]
        rw [e1]
        unfold dm_st
        rw [if_neg c0, if_neg c1, if_neg c5]
        by_cases c2 : e.1 = 2
        · rw [if_pos c2] at h ⊢
          injection h with h
          injection h with h3 h4
          subst h3
          subst h4
          have eT : gm_T ((gm_X s, gm_F s, gm_T s, gm_D s - 1, gm_P s) : gm_S) = gm_T s := gm_T_mk _ _ _ _ _
          rw [eT]
          refine ⟨pv_s hwr eT, fun hk => ⟨okp_cons c5 hk, ?_⟩⟩
          rw [vs_2]
        · rw [if_neg c2] at h ⊢
          by_cases c3 : e.1 = 3
          · rw [if_pos c3] at h ⊢
            injection h with h
            injection h with h3 h4
            subst h3
            subst h4
            rw [gm_mid_T]
            refine ⟨pv_s hwr gm_mid_T, fun hk => ⟨okp_cons c5 hk, ?_⟩⟩
            rw [vs_mid]
          · rw [if_neg c3] at h ⊢
            injection h with h
            injection h with h3 h4
            subst h3
            subst h4
            have e4 : e.1 = 4 := by
              have := hw.1 e List.mem_cons_self
              omega
            rw [vs_tu]
            unfold gm_tu
            have hal := hI.2.2.2.2.1
            dsimp only at hal
            cases hP : gm_P s with
            | nil =>
              exact ⟨hwr, fun hk => ⟨okp_cons c5 hk, rfl⟩⟩
            | cons p q =>
              rw [hP] at hal
              dsimp only
              have eR : gm_T ((gm_X s, gm_F s, gm_rot p.1 p.2 (gm_T s), gm_D s, q) : gm_S) = gm_rot p.1 p.2 (gm_T s) := gm_T_mk _ _ _ _ _
              rw [eR]
              obtain ⟨x, y, z⟩ := e
              have e4 : x = 4 := e4
              subst e4
              have hal : pm_al ((4, y, z) :: r) ((p.1 : Int) :: pm_bg q) := hal
              rw [pm_al_4] at hal
              have gr : ∀ w ∈ r, w.1 = 5 → (gm_rot p.1 p.2 (gm_T s))[w.2.2.toNat]? = (gm_T s)[w.2.2.toNat]? := fun w hw2 w5 => by
                have := hal.1 w hw2 w5
                have := (pv_a hwr hw2 w5).1
                exact rot_lt (by omega)
              refine ⟨⟨hwr.1, fun w hw2 w5 => ?_, hwr.2.2.1, fun x hx => ?_⟩, fun hk => ⟨okp_cons c5 (fun x hx => hk x (mem_rot hx)), ?_⟩⟩
              · obtain ⟨v', d', h'⟩ := hwr.2.1 w hw2 w5
                refine ⟨v', d', ?_⟩
                dsimp only
                rw [gm_T_mk]
                exact (gr w hw2 w5).trans h'
              · dsimp only at hx ⊢
                rw [gm_T_mk] at hx
                have := hwr.2.2.2 x (mem_rot' hx)
                unfold gm_len at this ⊢
                rw [gm_T_mk, gm_rot_len]
                exact this
              · rw [cv_eq2 (T := gm_T s) (T' := gm_rot p.1 p.2 (gm_T s)) (fun w hw2 w5 => by unfold vl; rw [gr w hw2 w5])]
/-- all of it -/
theorem pv_to {s' : gm_S} (hV : vo V s') : ∀ (n : Nat) (c : gm_C), pm_I c → pv_w c → pw_to (pm_st g E 0) n c ([], s') → okp V c.1 (gm_T c.2) ∧ pw_to (dm_st g V 0) n (cv V (gm_T c.2) c.1, vs V c.2) ([], vs V s') := by
  intro n
  induction n with
  | zero =>
    intro c _ _ h
    have h : c = ([], s') := h
    subst h
    exact ⟨fun x hx => ⟨Int.le_of_eq (hV x hx).symm, fun _ => hV x hx⟩, rfl⟩
  | succ n ih =>
    intro c hI hw h
    obtain ⟨e, r, c1, a1, a2, a3⟩ := h
    obtain ⟨B, s⟩ := c
    have a1 : B = e :: r := a1
    subst a1
    have hc := hw.1 e List.mem_cons_self
    have hI1 := pm_st_I (by omega) hI a2
    obtain ⟨hw1, key⟩ := pv_st (V := V) hI hw (show pm_st g E 0 e r s = some (c1.1, c1.2) from a2)
    obtain ⟨i1, i2⟩ := ih c1 hI1 hw1 a3
    obtain ⟨k2, k3⟩ := key i1
    exact ⟨k2, cv1 V (gm_T s) e, cv V (gm_T s) r, _, rfl, k3, i2⟩
end VP2
/-! the replay with other values of numbers and names -/
/-- the values of T are V's, but for numbers and names -/
def vo2 (V : Int → Int) (s : gm_S) : Prop := ∀ x ∈ gm_T s, x.1 % 10 ≠ 2 → x.1 % 10 ≠ 3 → V (x.1 / 10) = x.2.1
section VW
variable {V V' : Int → Int} {g : wk_g} {s s1 : gm_S} {r r1 : List wk_E}
theorem vo2_c {k v : Int} {t : gm_S} (hk : 0 ≤ k ∧ k < 10) (k2 : k ≠ 2) (k3 : k ≠ 3) (h : gm_c k v s = some t) (hV : vo2 V t) : V (gm_len s) = v := by
  obtain ⟨-, -, t1, -, -⟩ := gm_c_t h
  have := hV (k + 10 * ((gm_T s).length : Int), v, gm_D s) (by rw [t1]; exact List.mem_append_right _ List.mem_cons_self)
  dsimp only at this
  rw [show (k + 10 * ((gm_T s).length : Int)) / 10 = ((gm_T s).length : Int) by omega] at this
  exact this (by omega) (by omega)
theorem dw_sg {u : Int} (h : dm_sg 0 g V u r s = some (r1, s1)) (hV : vo2 V' s1) : dm_sg 0 g V' u r (vs V' s) = some (r1, vs V' s1) ∧ ∀ x ∈ gm_T s, x ∈ gm_T s1 := by
  unfold dm_sg at h ⊢
  by_cases c9 : g 119 u.toNat = 9
  · rw [if_pos c9] at h ⊢
    unfold pm_en at h ⊢
    by_cases cu : 12 ≤ 0 + wk_ul r
    · rw [if_pos cu] at h
      cases h
    · rw [if_neg cu] at h ⊢
      obtain ⟨t, h1, h2⟩ := Option.map_eq_some_iff.mp h
      injection h2 with h3 h4
      subst h3
      subst h4
      have hVt : vo2 V' t := fun x hx => hV x (by rw [gm_d_T]; exact hx)
      have hv := vo2_c (by decide) (by decide) (by decide) h1 hVt
      have := vs_c (V := V') (s := s) (by decide) h1 rfl rfl rfl
      rw [hv] at this
      rw [this, Option.map_some, vs_d]
      refine ⟨rfl, fun x hx => ?_⟩
      rw [gm_d_T]
      exact gm_c_mem h1 hx
  · rw [if_neg c9] at h ⊢
    by_cases c10 : g 119 u.toNat = 10
    · rw [if_pos c10] at h ⊢
      injection h with h
      injection h with h1 h2
      subst h1
      subst h2
      exact ⟨rfl, fun x hx => hx⟩
    · rw [if_neg c10] at h ⊢
      obtain ⟨t, h1, h2⟩ := Option.map_eq_some_iff.mp h
      injection h2 with h3 h4
      subst h3
      subst h4
      unfold dm_lf at h1 ⊢
      by_cases c1 : g 119 u.toNat = 1
      · rw [if_pos c1] at h1 ⊢
        rw [vs_len, vs_c (V := V') (s := s) (by decide) h1 rfl rfl rfl]
        exact ⟨rfl, fun x hx => gm_c_mem h1 hx⟩
      · rw [if_neg c1] at h1 ⊢
        by_cases c2 : g 119 u.toNat = 2
        · rw [if_pos c2] at h1 ⊢
          rw [vs_len, vs_c (V := V') (s := s) (by decide) h1 rfl rfl rfl]
          exact ⟨rfl, fun x hx => gm_c_mem h1 hx⟩
        · rw [if_neg c2] at h1 ⊢
          injection h1 with h1
          subst h1
          exact ⟨rfl, fun x hx => hx⟩
theorem dw_st {e : wk_E} (h : dm_st g V 0 e r s = some (r1, s1)) (hV : vo2 V' s1) : dm_st g V' 0 e r (vs V' s) = some (r1, vs V' s1) ∧ ∀ x ∈ gm_T s, x ∈ gm_T s1 := by
  unfold dm_st at h ⊢
  by_cases c0 : e.1 = 0
  · rw [if_pos c0] at h ⊢
    rw [vs_op]
    have To : gm_T (gm_op e.2.2 s) = gm_T s := gm_op_t
    rw [← To]
    generalize gm_op e.2.2 s = so at h ⊢
    unfold dm_u at h ⊢
    by_cases c1 : g 122 e.2.1.toNat = 1
    · rw [if_pos c1] at h ⊢
      obtain ⟨t, h1, h2⟩ := Option.map_eq_some_iff.mp h
      injection h2 with h3 h4
      subst h3
      subst h4
      have hVt : vo2 V' t := fun x hx => hV x (by rw [gm_d_T]; exact hx)
      have hv := vo2_c (by decide) (by decide) (by decide) h1 hVt
      have := vs_c (V := V') (s := so) (by decide) h1 rfl rfl rfl
      rw [vs_len, this, Option.map_some, vs_d, hv]
      refine ⟨rfl, fun x hx => ?_⟩
      rw [gm_d_T]
      exact gm_c_mem h1 hx
    · rw [if_neg c1] at h ⊢
      by_cases c2 : g 122 e.2.1.toNat = 2
      · rw [if_pos c2] at h ⊢
        obtain ⟨t, h1, h2⟩ := Option.bind_eq_some_iff.mp h
        have hc := vs_c (V := V') (s := so) (by decide) h1 rfl rfl rfl
        have mem : ∀ x ∈ gm_T so, x ∈ gm_T (gm_d t) := fun x hx => by
          rw [gm_d_T]
          exact gm_c_mem h1 hx
        by_cases cn : 0 < V (gm_len so)
        · rw [if_pos cn] at h2
          obtain ⟨i1, i2⟩ := dw_sg h2 hV
          have hVt : vo2 V' t := fun x hx => hV x (i2 x (by rw [gm_d_T]; exact hx))
          have hv := vo2_c (by decide) (by decide) (by decide) h1 hVt
          rw [vs_len, hc, Option.bind_some, hv, if_pos cn, vs_d]
          exact ⟨i1, fun x hx => i2 x (mem x hx)⟩
        · rw [if_neg cn] at h2
          injection h2 with h2
          injection h2 with h3 h4
          subst h3
          subst h4
          have hVt : vo2 V' t := fun x hx => hV x (by rw [gm_d_T]; exact hx)
          have hv := vo2_c (by decide) (by decide) (by decide) h1 hVt
          rw [vs_len, hc, Option.bind_some, hv, if_neg cn, vs_d]
          exact ⟨rfl, mem⟩
      · rw [if_neg c2] at h ⊢
        exact dw_sg h hV
  · rw [if_neg c0] at h ⊢
    by_cases c1 : e.1 = 1
    · rw [if_pos c1] at h ⊢
      unfold dm_fo at h ⊢
      by_cases cf : 1 < g 130 e.2.1.toNat
      · rw [if_pos cf] at h ⊢
        by_cases cb : 0 ≤ V (gm_len s) ∧ V (gm_len s) < g 130 e.2.1.toNat
        · rw [if_pos cb] at h
          obtain ⟨t, h1, h2⟩ := Option.map_eq_some_iff.mp h
          injection h2 with h3 h4
          subst h3
          subst h4
          have hVt : vo2 V' t := fun x hx => hV x (by rw [gm_d_T]; exact hx)
          have hv := vo2_c (by decide) (by decide) (by decide) h1 hVt
          have := vs_c (V := V') (s := s) (by decide) h1 rfl rfl rfl
          rw [hv] at this
          rw [vs_len, hv, if_pos cb, this, Option.map_some, vs_d]
          refine ⟨rfl, fun x hx => ?_⟩
          rw [gm_d_T]
          exact gm_c_mem h1 hx
        · rw [if_neg cb] at h
          cases h
      · rw [if_neg cf] at h ⊢
        injection h with h
        injection h with h3 h4
        subst h3
        subst h4
        exact ⟨rfl, fun x hx => hx⟩
    · rw [if_neg c1] at h ⊢
      by_cases c5 : e.1 = 5
      · rw [if_pos c5] at h ⊢
        unfold dm_ag at h ⊢
        by_cases ca : 0 < e.2.2
        · rw [if_pos ca] at h ⊢
          exact dw_sg h hV
        · rw [if_neg ca] at h ⊢
          injection h with h
          injection h with h3 h4
          subst h3
          subst h4
          exact ⟨rfl, fun x hx => hx⟩
      · rw [if_neg c5] at h ⊢
        by_cases c2 : e.1 = 2
        · rw [if_pos c2] at h ⊢
          injection h with h
          injection h with h3 h4
          subst h3
          subst h4
          rw [vs_2]
          exact ⟨rfl, fun x hx => hx⟩
        · rw [if_neg c2] at h ⊢
          by_cases c3 : e.1 = 3
          · rw [if_pos c3] at h ⊢
            injection h with h
            injection h with h3 h4
            subst h3
            subst h4
            rw [vs_mid]
            exact ⟨rfl, fun x hx => by rw [gm_mid_T]; exact hx⟩
          · rw [if_neg c3] at h ⊢
            injection h with h
            injection h with h3 h4
            subst h3
            subst h4
            rw [vs_tu]
            exact ⟨rfl, fun x hx => gm_tu_mem hx⟩
theorem dw_to {B' : List wk_E} {s' : gm_S} (hV : vo2 V' s') : ∀ (n : Nat) (c : gm_C), pw_to (dm_st g V 0) n c (B', s') → pw_to (dm_st g V' 0) n (c.1, vs V' c.2) (B', vs V' s') ∧ ∀ x ∈ gm_T c.2, x ∈ gm_T s' := by
  intro n
  induction n with
  | zero =>
    intro c h
    have h : c = (B', s') := h
    subst h
    exact ⟨rfl, fun x hx => hx⟩
  | succ n ih =>
    intro c h
    obtain ⟨e, r, c1, a1, a2, a3⟩ := h
    obtain ⟨i1, i2⟩ := ih c1 a3
    have hV1 : vo2 V' c1.2 := fun x hx => hV x (i2 x hx)
    obtain ⟨j1, j2⟩ := dw_st a2 hV1
    refine ⟨⟨e, r, (c1.1, vs V' c1.2), a1, j1, i1⟩, fun x hx => i2 x (j2 x hx)⟩
end VW
/-! trees that are replayed -/
def tr_0 (g : wk_g) : gm_C := ([(1, g 114 0, 0), (2, 1, 0)], (0, 0, [(1, 0, 0)], 1, []))
/-- T is the tree that its own values give, in fewer turns than there are -/
def tr_R (g : wk_g) (V : Int → Int) (T : List (Int × Int × Int)) : Prop := (∃ n s', n < 40000 ∧ pw_to (dm_st g V 0) n (tr_0 g) ([], s') ∧ gm_T s' = T) ∧ ∀ x ∈ T, V (x.1 / 10) = x.2.1
section TRR
variable {V : Int → Int} {g : wk_g}
theorem vs_0 {x : Int64} {fu : Int} (h : V 0 = 0) : vs V ((x, fu, [(1, 0, 0)], 1, []) : gm_S) = (0, 0, [(1, 0, 0)], 1, []) := by
  unfold vs
  simp only [gm_T_mk, gm_D_mk, gm_P_mk]
  show ((0, 0, [(1, V (1 / 10), 0)], 1, []) : gm_S) = _
  rw [show (1 : Int) / 10 = 0 by decide, h]
theorem tr_grow {kw : Int → Bool} {Y : wk_Y} (hL : wk_L g Y) (h3 : ∀ f, 0 ≤ f → f < wk_f Y → g 130 f.toNat ≤ 10000) (hr : wk_Lrule Y (g 114 0)) {x : Int64} {fu : Int} {s' : gm_S} (hl : gm_len s' ≤ 100) (hV : vo V s') {n : Nat} (h : gm_to g kw n (gr_c0 g x fu) ([], s')) : tr_R g V (gm_T s') := by
  have hK0 : gm_K Y (gr_c0 g x fu).1 := ⟨gm_k_1 hr.1 hr.2.1 hr.2.2, gm_k_o (by decide) (by decide) (by decide), trivial⟩
  obtain ⟨i1, i2⟩ := gv_to hL h3 hV n _ hK0 h
  obtain ⟨-, p2, p3⟩ := gm_to_pot hL gm_vbt h3 n _ hK0 h
  have h0 : V 0 = 0 := hV (1, 0, 0) (i2 _ (by unfold gr_c0; dsimp only; rw [gm_T_mk]; exact List.mem_cons_self))
  refine ⟨⟨n, vs V s', ?_, ?_, ?_⟩, hV⟩
  · have e0 : gm_len (gr_c0 g x fu).2 = 1 := by
      unfold gr_c0 gm_len
      rw [gm_T_mk]
      rfl
    have ep : gm_pot Y (gr_c0 g x fu).1 ≤ 182 := by
      show gm_e1 Y (1, g 114 0, 0) + (gm_e1 Y (2, 1, 0) + 0) ≤ 182
      rw [gm_e_1, gm_e_o (by decide) (by decide) (by decide)]
      have := hr.2.2
      omega
    dsimp only at p2 p3
    have : gm_pot Y ([] : List wk_E) = 0 := rfl
    omega
  · have e : vs V (gr_c0 g x fu).2 = (0, 0, [(1, 0, 0)], 1, []) := vs_0 h0
    rw [e] at i1
    exact i1
  · rw [vs_T, vT_id hV]
theorem tr_parse {E : pm_E} {Y : wk_Y} {pf pa : Int → Int → Bool} (hL : wk_L g Y) (hx : pm_x Y) (hH : pm_Hs g Y E pf pa) (hr : wk_Lrule Y (g 114 0)) {s' : gm_S} (hl : gm_len s' ≤ 100) (hF : gm_F s' ≤ 160) (hV : vo V s') (h : pm_RO g E (pc_0 g 0) ([], s')) : tr_R g V (gm_T s') := by
  obtain ⟨c1, n, h1, h2⟩ := h
  rw [pc_0_e] at h1
  injection h1 with h1
  subst h1
  have e0 : gm_len ((0, 0, [(1, 0, 0)], 1, []) : gm_S) = 1 := by unfold gm_len; rw [gm_T_mk]; rfl
  have hI : pm_I (([(1, g 114 0, 0), (2, 1, 0)], (0, 0, [(1, 0, 0)], 1, [])) : gm_C) := by
    unfold pm_I
    dsimp only
    rw [e0]
    simp only [gm_D_mk, gm_P_mk]
    refine ⟨rfl, by decide, by decide, ?_, ?_, fun x hx x5 => ?_⟩
    · rw [gm_fl_o (by omega) (by decide) (by decide), gm_fl_o (by omega) (by decide) (by decide)]
      trivial
    · rw [pm_al_o (by omega) (by decide), pm_al_o (by omega) (by decide)]
      trivial
    · exfalso
      rcases List.mem_cons.mp hx with rfl | hx
      · exact absurd x5 (show (1 : Int) ≠ 5 by decide)
      · rw [List.mem_singleton.mp hx] at x5
        exact absurd x5 (show (2 : Int) ≠ 5 by decide)
  have n5 : ∀ z ∈ ([(1, g 114 0, 0), (2, 1, 0)] : List wk_E), z.1 ≠ 5 := nP2 (by decide) (by decide)
  have hw : pv_w (([(1, g 114 0, 0), (2, 1, 0)], (0, 0, [(1, 0, 0)], 1, [])) : gm_C) := by
    refine ⟨fun e he => ?_, fun e he e5 => absurd e5 (n5 e he), pm_lt_app (r := []) n5 trivial, fun x hx => ?_⟩
    · rcases List.mem_cons.mp he with rfl | he
      · exact ⟨show (0 : Int) ≤ 1 by decide, show (1 : Int) ≤ 5 by decide⟩
      · rw [List.mem_singleton.mp he]
        exact ⟨show (0 : Int) ≤ 2 by decide, show (2 : Int) ≤ 5 by decide⟩
    · dsimp only at hx ⊢
      rw [gm_T_mk] at hx
      rw [e0, List.mem_singleton.mp hx]
      exact ⟨show (0 : Int) ≤ 1 by decide, show (1 : Int) / 10 < 1 by decide⟩
  obtain ⟨k1, k2⟩ := pv_to hV n _ hI hw h2
  dsimp only at k1 k2
  have h0 : V 0 = 0 := (k1 (1, 0, 0) (by rw [gm_T_mk]; exact List.mem_cons_self)).2 (fun z hz z5 => absurd z5 (n5 z hz))
  refine ⟨⟨n, vs V s', ?_, ?_, ?_⟩, hV⟩
  · exact pm_turns hL hx hH hr ⟨e0, gm_F_mk _ _ _ _ _⟩ h2 hl hF (Int.le_refl _)
  · rw [vs_0 h0, cv_n5 n5] at k2
    exact k2
  · rw [vs_T, vT_id hV]
/-- other numbers, other names -/
theorem tr_set {V' : Int → Int} {T : List (Int × Int × Int)} (h : tr_R g V T) (hV : ∀ x ∈ T, x.1 % 10 ≠ 2 → x.1 % 10 ≠ 3 → V' (x.1 / 10) = x.2.1) : tr_R g V' (vT V' T) := by
  obtain ⟨⟨n, s', h1, h2, h3⟩, h4⟩ := h
  subst h3
  obtain ⟨i1, i2⟩ := dw_to (V' := V') hV n _ h2
  have h0 : V' 0 = 0 := hV (1, 0, 0) (i2 _ (by unfold tr_0; dsimp only; rw [gm_T_mk]; exact List.mem_cons_self)) (by decide) (by decide)
  refine ⟨⟨n, vs V' s', h1, ?_, vs_T⟩, fun x hx => ?_⟩
  · have e : vs V' (tr_0 g).2 = (0, 0, [(1, 0, 0)], 1, []) := vs_0 h0
    rw [e] at i1
    exact i1
  · obtain ⟨y, y1, y2⟩ := List.mem_map.mp hx
    rw [← y2]
end TRR
/-! segments: write, isWordy, between, layout -/
set_option maxRecDepth 20000 in
theorem mp_ywr_0 (h : sm_H) (d : Nat) (zc : Int) : mi_path [(220, (2, 0, sb_220))] sx_sk h 10 [1, 1] (d, 220, 0, [some (.inr (.inr 109)), some (.inl (zc))], [], [], []) = some ((d, 220, 50, [some (.inr (.inr 109)), some (.inl (zc))], [], [.inl (14044, (1 : Int))], []), [(mi_f h 14044) ≠ ((0 : Int)), 0 ≤ ((1 : Int)) ∧ ((1 : Int)) ≤ 1, 0 ≤ ((1 : Int)) ∧ ((1 : Int)) ≤ 1, ((1 : Int)) ≠ ((0 : Int))]) := rfl
theorem mi_tab_ywr_0 : ∀ e ∈ ([(220, (2, 0, sb_220))] : mi_T), sc_P e.1 = some e.2 := mi_tb mi_P220 (mi_tb_e)
set_option maxRecDepth 20000 in
theorem ms_ywr_0 {h : sm_H} {d : Nat} {Q : Option mi_V → sm_H → Prop} {zc : Int} (hS : ab_Sh sx_sk h) (ok_zc : mi_in zc) (ho : ((mi_f h 14044) ≠ ((0 : Int))) ∧ (0 ≤ ((1 : Int)) ∧ ((1 : Int)) ≤ 1) ∧ (0 ≤ ((1 : Int)) ∧ ((1 : Int)) ≤ 1) ∧ (((1 : Int)) ≠ ((0 : Int)))) (kon : ∀ h1, me_W [.inl (14044, (1 : Int))] h h1 → Q none h1) : me_E (d) 220 0 [some (.inr (.inr 109)), some (.inl (zc))] [] h Q := me_seg (mp_ywr_0 h d zc) (mi_tab_ywr_0) hS (mi_okL_c (trivial) (mi_okL_c (ok_zc) (mi_okL_e))) (mi_okS_e) (mi_al (ho.1) (mi_al (ho.2.1) (mi_al (ho.2.2.1) (mi_al (ho.2.2.2) (mi_al_e))))) (fun h1 W _ hst => me_ret (M := (2, 0, sb_220)) rfl rfl rfl hst (mi_al_e) (kon h1 W))
set_option maxRecDepth 20000 in
theorem mp_ywr_1 (h : sm_H) (d : Nat) (zc : Int) : mi_path [(220, (2, 0, sb_220))] sx_sk h 24 [0, 1, 0, 8] (d, 220, 0, [some (.inr (.inr 109)), some (.inl (zc))], [], [], []) = some ((d, 220, 50, [some (.inr (.inr 109)), some (.inl (zc))], [], [.inr (.inr (.inl (170, Int.toNat (mi_f h 14037), zc))), .inl (14037, (mi_f h 14037) + ((1 : Int))), .inl (14044, (0 : Int))], []), [(mi_f h 14044) = ((0 : Int)), (mi_f h 14037) ≠ ((160 : Int)), 0 ≤ ((0 : Int)) ∧ ((0 : Int)) ≤ 1, 0 ≤ ((0 : Int)) ∧ ((0 : Int)) ≤ 1, ((0 : Int)) = ((0 : Int)), -2147483648 ≤ (mi_f h 14037) + ((1 : Int)) ∧ (mi_f h 14037) + ((1 : Int)) ≤ 2147483647, 0 ≤ ((mi_f h 14037) + ((1 : Int))) ∧ ((mi_f h 14037) + ((1 : Int))) ≤ 160, 0 ≤ (mi_f h 14037) ∧ (mi_f h 14037) < 160]) := rfl
theorem mi_tab_ywr_1 : ∀ e ∈ ([(220, (2, 0, sb_220))] : mi_T), sc_P e.1 = some e.2 := mi_tb mi_P220 (mi_tb_e)
set_option maxRecDepth 20000 in
theorem ms_ywr_1 {h : sm_H} {d : Nat} {Q : Option mi_V → sm_H → Prop} {zc : Int} (hS : ab_Sh sx_sk h) (ok_zc : mi_in zc) (ho : ((mi_f h 14044) = ((0 : Int))) ∧ ((mi_f h 14037) ≠ ((160 : Int))) ∧ (0 ≤ ((0 : Int)) ∧ ((0 : Int)) ≤ 1) ∧ (0 ≤ ((0 : Int)) ∧ ((0 : Int)) ≤ 1) ∧ (((0 : Int)) = ((0 : Int))) ∧ (-2147483648 ≤ (mi_f h 14037) + ((1 : Int)) ∧ (mi_f h 14037) + ((1 : Int)) ≤ 2147483647) ∧ (0 ≤ ((mi_f h 14037) + ((1 : Int))) ∧ ((mi_f h 14037) + ((1 : Int))) ≤ 160) ∧ (0 ≤ (mi_f h 14037) ∧ (mi_f h 14037) < 160)) (kon : ∀ h1, me_W [.inr (.inr (.inl (170, Int.toNat (mi_f h 14037), zc))), .inl (14037, (mi_f h 14037) + ((1 : Int))), .inl (14044, (0 : Int))] h h1 → Q none h1) : me_E (d) 220 0 [some (.inr (.inr 109)), some (.inl (zc))] [] h Q := me_seg (mp_ywr_1 h d zc) (mi_tab_ywr_1) hS (mi_okL_c (trivial) (mi_okL_c (ok_zc) (mi_okL_e))) (mi_okS_e) (mi_al (ho.1) (mi_al (ho.2.1) (mi_al (ho.2.2.1) (mi_al (ho.2.2.2.1) (mi_al (ho.2.2.2.2.1) (mi_al (ho.2.2.2.2.2.1) (mi_al (ho.2.2.2.2.2.2.1) (mi_al (ho.2.2.2.2.2.2.2) (mi_al_e))))))))) (fun h1 W _ hst => me_ret (M := (2, 0, sb_220)) rfl rfl rfl hst (mi_al_e) (kon h1 W))
set_option maxRecDepth 20000 in
theorem mp_ywr_2 (h : sm_H) (d : Nat) (zc : Int) : mi_path [(220, (2, 0, sb_220))] sx_sk h 14 [0, 0, 1] (d, 220, 0, [some (.inr (.inr 109)), some (.inl (zc))], [], [], []) = some ((d, 220, 50, [some (.inr (.inr 109)), some (.inl (zc))], [], [.inl (14044, (1 : Int))], []), [(mi_f h 14044) = ((0 : Int)), (mi_f h 14037) = ((160 : Int)), 0 ≤ ((1 : Int)) ∧ ((1 : Int)) ≤ 1, 0 ≤ ((1 : Int)) ∧ ((1 : Int)) ≤ 1, ((1 : Int)) ≠ ((0 : Int))]) := rfl
theorem mi_tab_ywr_2 : ∀ e ∈ ([(220, (2, 0, sb_220))] : mi_T), sc_P e.1 = some e.2 := mi_tb mi_P220 (mi_tb_e)
set_option maxRecDepth 20000 in
theorem ms_ywr_2 {h : sm_H} {d : Nat} {Q : Option mi_V → sm_H → Prop} {zc : Int} (hS : ab_Sh sx_sk h) (ok_zc : mi_in zc) (ho : ((mi_f h 14044) = ((0 : Int))) ∧ ((mi_f h 14037) = ((160 : Int))) ∧ (0 ≤ ((1 : Int)) ∧ ((1 : Int)) ≤ 1) ∧ (0 ≤ ((1 : Int)) ∧ ((1 : Int)) ≤ 1) ∧ (((1 : Int)) ≠ ((0 : Int)))) (kon : ∀ h1, me_W [.inl (14044, (1 : Int))] h h1 → Q none h1) : me_E (d) 220 0 [some (.inr (.inr 109)), some (.inl (zc))] [] h Q := me_seg (mp_ywr_2 h d zc) (mi_tab_ywr_2) hS (mi_okL_c (trivial) (mi_okL_c (ok_zc) (mi_okL_e))) (mi_okS_e) (mi_al (ho.1) (mi_al (ho.2.1) (mi_al (ho.2.2.1) (mi_al (ho.2.2.2.1) (mi_al (ho.2.2.2.2) (mi_al_e)))))) (fun h1 W _ hst => me_ret (M := (2, 0, sb_220)) rfl rfl rfl hst (mi_al_e) (kon h1 W))
set_option maxRecDepth 20000 in
theorem mt_ywr {h : sm_H} {d : Nat} {Q : Option mi_V → sm_H → Prop} {zc : Int} (hS : ab_Sh sx_sk h) (ok_zc : mi_in zc) (k0 : (0 ≤ mi_f h 14044 ∧ mi_f h 14044 ≤ 1) → ((mi_f h 14044) ≠ ((0 : Int))) → (∀ h1, ab_Sh sx_sk h1 → mi_f h1 14044 = (1 : Int) → ab_Fr [(14044, 14045)] h h1 → Q none h1)) (k1 : (0 ≤ mi_f h 14044 ∧ mi_f h 14044 ≤ 1) → (0 ≤ mi_f h 14037 ∧ mi_f h 14037 ≤ 160) → ((mi_f h 14044) = ((0 : Int))) → ((mi_f h 14037) ≠ ((160 : Int))) → ((-2147483648 ≤ (mi_f h 14037) + ((1 : Int)) ∧ (mi_f h 14037) + ((1 : Int)) ≤ 2147483647) ∧ (0 ≤ ((mi_f h 14037) + ((1 : Int))) ∧ ((mi_f h 14037) + ((1 : Int))) ≤ 160) ∧ (0 ≤ (mi_f h 14037) ∧ (mi_f h 14037) < 160)) ∧ (∀ h1, ab_Sh sx_sk h1 → mi_f h1 14037 = (mi_f h 14037) + ((1 : Int)) → mi_f h1 14044 = (0 : Int) → (∀ i, mi_a h1 170 i = if i = Int.toNat (mi_f h 14037) then zc else (mi_a h 170 i)) → ab_Fr [(14037, 14038), (14044, 14045), (21760, 21761)] h h1 → Q none h1)) (k2 : (0 ≤ mi_f h 14044 ∧ mi_f h 14044 ≤ 1) → (0 ≤ mi_f h 14037 ∧ mi_f h 14037 ≤ 160) → ((mi_f h 14044) = ((0 : Int))) → ((mi_f h 14037) = ((160 : Int))) → (∀ h1, ab_Sh sx_sk h1 → mi_f h1 14044 = (1 : Int) → ab_Fr [(14044, 14045)] h h1 → Q none h1)) : me_E (d) 220 0 [some (.inr (.inr 109)), some (.inl (zc))] [] h Q := Or.elim (mi_em .ne ((mi_f h 14044)) (((0 : Int)))) (fun c0 => ms_ywr_0 hS ok_zc ⟨c0, (by decide), (by decide), (by decide)⟩ (fun h1 W => (k0 (me_fb hS rfl) c0) h1 W.1 (W.2.1 14044) (W.2.2.2.2.2 _ rfl))) (fun c0 => Or.elim (mi_em .ne ((mi_f h 14037)) (((160 : Int)))) (fun c1 => ms_ywr_1 hS ok_zc ⟨c0, c1, (by decide), (by decide), (by decide), (k1 (me_fb hS rfl) (me_fb hS rfl) c0 c1).1.1, (k1 (me_fb hS rfl) (me_fb hS rfl) c0 c1).1.2.1, (k1 (me_fb hS rfl) (me_fb hS rfl) c0 c1).1.2.2⟩ (fun h1 W => (k1 (me_fb hS rfl) (me_fb hS rfl) c0 c1).2 h1 W.1 (W.2.1 14037) (W.2.1 14044) (fun i => W.2.2.1 170 i) (W.2.2.2.2.2 _ rfl))) (fun c1 => ms_ywr_2 hS ok_zc ⟨c0, c1, (by decide), (by decide), (by decide)⟩ (fun h1 W => (k2 (me_fb hS rfl) (me_fb hS rfl) c0 c1) h1 W.1 (W.2.1 14044) (W.2.2.2.2.2 _ rfl))))
set_option maxRecDepth 20000 in
theorem mp_ywy_0 (h : sm_H) (d : Nat) (zc : Int) : mi_path [(221, (1, 4, sb_221)), (180, (1, 4, sb_180)), (182, (1, 4, sb_182))] sx_sk h 20 [1, 0, 1, 0, 1] (d + 1, 221, 0, [some (.inl (zc))], [], [], []) = some ((d + 1, 221, 31, [some (.inl (zc))], [.inl ((0 : Int))], [], []), [zc < ((97 : Int)), ((0 : Int)) = 0 ∨ ((0 : Int)) = 1, ((0 : Int)) = ((0 : Int)), zc < ((48 : Int)), ((0 : Int)) = 0 ∨ ((0 : Int)) = 1, ((0 : Int)) = ((0 : Int)), zc < ((65 : Int))]) := rfl
theorem mi_tab_ywy_0 : ∀ e ∈ ([(221, (1, 4, sb_221)), (180, (1, 4, sb_180)), (182, (1, 4, sb_182))] : mi_T), sc_P e.1 = some e.2 := mi_tb mi_P221 (mi_tb mi_P180 (mi_tb mi_P182 (mi_tb_e)))
set_option maxRecDepth 20000 in
theorem ms_ywy_0 {h : sm_H} {d : Nat} {Q : Option mi_V → sm_H → Prop} {zc : Int} (hS : ab_Sh sx_sk h) (ok_zc : mi_in zc) (ho : (zc < ((97 : Int))) ∧ (((0 : Int)) = 0 ∨ ((0 : Int)) = 1) ∧ (((0 : Int)) = ((0 : Int))) ∧ (zc < ((48 : Int))) ∧ (((0 : Int)) = 0 ∨ ((0 : Int)) = 1) ∧ (((0 : Int)) = ((0 : Int))) ∧ (zc < ((65 : Int))) ∧ (((0 : Int)) = 0 ∨ ((0 : Int)) = 1)) (kon : ∀ h1, me_W [] h h1 → Q (some (.inl ((0 : Int)))) h1) : me_E (d + 1) 221 0 [some (.inl (zc))] [] h Q := me_seg (mp_ywy_0 h d zc) (mi_tab_ywy_0) hS (mi_okL_c (ok_zc) (mi_okL_e)) (mi_okS_e) (mi_al (ho.1) (mi_al (ho.2.1) (mi_al (ho.2.2.1) (mi_al (ho.2.2.2.1) (mi_al (ho.2.2.2.2.1) (mi_al (ho.2.2.2.2.2.1) (mi_al (ho.2.2.2.2.2.2.1) (mi_al_e)))))))) (fun h1 W _ hst => me_ret (M := (1, 4, sb_221)) rfl rfl rfl hst (mi_al (ho.2.2.2.2.2.2.2) mi_al_e) (kon h1 W))
set_option maxRecDepth 20000 in
theorem mp_ywy_1 (h : sm_H) (d : Nat) (zc : Int) : mi_path [(221, (1, 4, sb_221)), (180, (1, 4, sb_180)), (182, (1, 4, sb_182))] sx_sk h 23 [1, 0, 1, 0, 0, 1] (d + 1, 221, 0, [some (.inl (zc))], [], [], []) = some ((d + 1, 221, 31, [some (.inl (zc))], [.inl ((0 : Int))], [], []), [zc < ((97 : Int)), ((0 : Int)) = 0 ∨ ((0 : Int)) = 1, ((0 : Int)) = ((0 : Int)), zc < ((48 : Int)), ((0 : Int)) = 0 ∨ ((0 : Int)) = 1, ((0 : Int)) = ((0 : Int)), ((65 : Int)) ≤ zc, ((90 : Int)) < zc]) := rfl
theorem mi_tab_ywy_1 : ∀ e ∈ ([(221, (1, 4, sb_221)), (180, (1, 4, sb_180)), (182, (1, 4, sb_182))] : mi_T), sc_P e.1 = some e.2 := mi_tb mi_P221 (mi_tb mi_P180 (mi_tb mi_P182 (mi_tb_e)))
set_option maxRecDepth 20000 in
theorem ms_ywy_1 {h : sm_H} {d : Nat} {Q : Option mi_V → sm_H → Prop} {zc : Int} (hS : ab_Sh sx_sk h) (ok_zc : mi_in zc) (ho : (zc < ((97 : Int))) ∧ (((0 : Int)) = 0 ∨ ((0 : Int)) = 1) ∧ (((0 : Int)) = ((0 : Int))) ∧ (zc < ((48 : Int))) ∧ (((0 : Int)) = 0 ∨ ((0 : Int)) = 1) ∧ (((0 : Int)) = ((0 : Int))) ∧ (((65 : Int)) ≤ zc) ∧ (((90 : Int)) < zc) ∧ (((0 : Int)) = 0 ∨ ((0 : Int)) = 1)) (kon : ∀ h1, me_W [] h h1 → Q (some (.inl ((0 : Int)))) h1) : me_E (d + 1) 221 0 [some (.inl (zc))] [] h Q := me_seg (mp_ywy_1 h d zc) (mi_tab_ywy_1) hS (mi_okL_c (ok_zc) (mi_okL_e)) (mi_okS_e) (mi_al (ho.1) (mi_al (ho.2.1) (mi_al (ho.2.2.1) (mi_al (ho.2.2.2.1) (mi_al (ho.2.2.2.2.1) (mi_al (ho.2.2.2.2.2.1) (mi_al (ho.2.2.2.2.2.2.1) (mi_al (ho.2.2.2.2.2.2.2.1) (mi_al_e))))))))) (fun h1 W _ hst => me_ret (M := (1, 4, sb_221)) rfl rfl rfl hst (mi_al (ho.2.2.2.2.2.2.2.2) mi_al_e) (kon h1 W))
set_option maxRecDepth 20000 in
theorem mp_ywy_2 (h : sm_H) (d : Nat) (zc : Int) : mi_path [(221, (1, 4, sb_221)), (180, (1, 4, sb_180)), (182, (1, 4, sb_182))] sx_sk h 24 [1, 0, 1, 0, 0, 0] (d + 1, 221, 0, [some (.inl (zc))], [], [], []) = some ((d + 1, 221, 31, [some (.inl (zc))], [.inl ((1 : Int))], [], []), [zc < ((97 : Int)), ((0 : Int)) = 0 ∨ ((0 : Int)) = 1, ((0 : Int)) = ((0 : Int)), zc < ((48 : Int)), ((0 : Int)) = 0 ∨ ((0 : Int)) = 1, ((0 : Int)) = ((0 : Int)), ((65 : Int)) ≤ zc, zc ≤ ((90 : Int))]) := rfl
theorem mi_tab_ywy_2 : ∀ e ∈ ([(221, (1, 4, sb_221)), (180, (1, 4, sb_180)), (182, (1, 4, sb_182))] : mi_T), sc_P e.1 = some e.2 := mi_tb mi_P221 (mi_tb mi_P180 (mi_tb mi_P182 (mi_tb_e)))
set_option maxRecDepth 20000 in
theorem ms_ywy_2 {h : sm_H} {d : Nat} {Q : Option mi_V → sm_H → Prop} {zc : Int} (hS : ab_Sh sx_sk h) (ok_zc : mi_in zc) (ho : (zc < ((97 : Int))) ∧ (((0 : Int)) = 0 ∨ ((0 : Int)) = 1) ∧ (((0 : Int)) = ((0 : Int))) ∧ (zc < ((48 : Int))) ∧ (((0 : Int)) = 0 ∨ ((0 : Int)) = 1) ∧ (((0 : Int)) = ((0 : Int))) ∧ (((65 : Int)) ≤ zc) ∧ (zc ≤ ((90 : Int))) ∧ (((1 : Int)) = 0 ∨ ((1 : Int)) = 1)) (kon : ∀ h1, me_W [] h h1 → Q (some (.inl ((1 : Int)))) h1) : me_E (d + 1) 221 0 [some (.inl (zc))] [] h Q := me_seg (mp_ywy_2 h d zc) (mi_tab_ywy_2) hS (mi_okL_c (ok_zc) (mi_okL_e)) (mi_okS_e) (mi_al (ho.1) (mi_al (ho.2.1) (mi_al (ho.2.2.1) (mi_al (ho.2.2.2.1) (mi_al (ho.2.2.2.2.1) (mi_al (ho.2.2.2.2.2.1) (mi_al (ho.2.2.2.2.2.2.1) (mi_al (ho.2.2.2.2.2.2.2.1) (mi_al_e))))))))) (fun h1 W _ hst => me_ret (M := (1, 4, sb_221)) rfl rfl rfl hst (mi_al (ho.2.2.2.2.2.2.2.2) mi_al_e) (kon h1 W))
set_option maxRecDepth 20000 in
theorem mp_ywy_3 (h : sm_H) (d : Nat) (zc : Int) : mi_path [(221, (1, 4, sb_221)), (180, (1, 4, sb_180)), (182, (1, 4, sb_182))] sx_sk h 23 [1, 0, 0, 1, 0, 1] (d + 1, 221, 0, [some (.inl (zc))], [], [], []) = some ((d + 1, 221, 31, [some (.inl (zc))], [.inl ((0 : Int))], [], []), [zc < ((97 : Int)), ((0 : Int)) = 0 ∨ ((0 : Int)) = 1, ((0 : Int)) = ((0 : Int)), ((48 : Int)) ≤ zc, ((57 : Int)) < zc, ((0 : Int)) = 0 ∨ ((0 : Int)) = 1, ((0 : Int)) = ((0 : Int)), zc < ((65 : Int))]) := rfl
theorem mi_tab_ywy_3 : ∀ e ∈ ([(221, (1, 4, sb_221)), (180, (1, 4, sb_180)), (182, (1, 4, sb_182))] : mi_T), sc_P e.1 = some e.2 := mi_tb mi_P221 (mi_tb mi_P180 (mi_tb mi_P182 (mi_tb_e)))
set_option maxRecDepth 20000 in
theorem ms_ywy_3 {h : sm_H} {d : Nat} {Q : Option mi_V → sm_H → Prop} {zc : Int} (hS : ab_Sh sx_sk h) (ok_zc : mi_in zc) (ho : (zc < ((97 : Int))) ∧ (((0 : Int)) = 0 ∨ ((0 : Int)) = 1) ∧ (((0 : Int)) = ((0 : Int))) ∧ (((48 : Int)) ≤ zc) ∧ (((57 : Int)) < zc) ∧ (((0 : Int)) = 0 ∨ ((0 : Int)) = 1) ∧ (((0 : Int)) = ((0 : Int))) ∧ (zc < ((65 : Int))) ∧ (((0 : Int)) = 0 ∨ ((0 : Int)) = 1)) (kon : ∀ h1, me_W [] h h1 → Q (some (.inl ((0 : Int)))) h1) : me_E (d + 1) 221 0 [some (.inl (zc))] [] h Q := me_seg (mp_ywy_3 h d zc) (mi_tab_ywy_3) hS (mi_okL_c (ok_zc) (mi_okL_e)) (mi_okS_e) (mi_al (ho.1) (mi_al (ho.2.1) (mi_al (ho.2.2.1) (mi_al (ho.2.2.2.1) (mi_al (ho.2.2.2.2.1) (mi_al (ho.2.2.2.2.2.1) (mi_al (ho.2.2.2.2.2.2.1) (mi_al (ho.2.2.2.2.2.2.2.1) (mi_al_e))))))))) (fun h1 W _ hst => me_ret (M := (1, 4, sb_221)) rfl rfl rfl hst (mi_al (ho.2.2.2.2.2.2.2.2) mi_al_e) (kon h1 W))
set_option maxRecDepth 20000 in
theorem mp_ywy_4 (h : sm_H) (d : Nat) (zc : Int) : mi_path [(221, (1, 4, sb_221)), (180, (1, 4, sb_180)), (182, (1, 4, sb_182))] sx_sk h 26 [1, 0, 0, 1, 0, 0, 1] (d + 1, 221, 0, [some (.inl (zc))], [], [], []) = some ((d + 1, 221, 31, [some (.inl (zc))], [.inl ((0 : Int))], [], []), [zc < ((97 : Int)), ((0 : Int)) = 0 ∨ ((0 : Int)) = 1, ((0 : Int)) = ((0 : Int)), ((48 : Int)) ≤ zc, ((57 : Int)) < zc, ((0 : Int)) = 0 ∨ ((0 : Int)) = 1, ((0 : Int)) = ((0 : Int)), ((65 : Int)) ≤ zc, ((90 : Int)) < zc]) := rfl
theorem mi_tab_ywy_4 : ∀ e ∈ ([(221, (1, 4, sb_221)), (180, (1, 4, sb_180)), (182, (1, 4, sb_182))] : mi_T), sc_P e.1 = some e.2 := mi_tb mi_P221 (mi_tb mi_P180 (mi_tb mi_P182 (mi_tb_e)))
set_option maxRecDepth 20000 in
theorem ms_ywy_4 {h : sm_H} {d : Nat} {Q : Option mi_V → sm_H → Prop} {zc : Int} (hS : ab_Sh sx_sk h) (ok_zc : mi_in zc) (ho : (zc < ((97 : Int))) ∧ (((0 : Int)) = 0 ∨ ((0 : Int)) = 1) ∧ (((0 : Int)) = ((0 : Int))) ∧ (((48 : Int)) ≤ zc) ∧ (((57 : Int)) < zc) ∧ (((0 : Int)) = 0 ∨ ((0 : Int)) = 1) ∧ (((0 : Int)) = ((0 : Int))) ∧ (((65 : Int)) ≤ zc) ∧ (((90 : Int)) < zc) ∧ (((0 : Int)) = 0 ∨ ((0 : Int)) = 1)) (kon : ∀ h1, me_W [] h h1 → Q (some (.inl ((0 : Int)))) h1) : me_E (d + 1) 221 0 [some (.inl (zc))] [] h Q := me_seg (mp_ywy_4 h d zc) (mi_tab_ywy_4) hS (mi_okL_c (ok_zc) (mi_okL_e)) (mi_okS_e) (mi_al (ho.1) (mi_al (ho.2.1) (mi_al (ho.2.2.1) (mi_al (ho.2.2.2.1) (mi_al (ho.2.2.2.2.1) (mi_al (ho.2.2.2.2.2.1) (mi_al (ho.2.2.2.2.2.2.1) (mi_al (ho.2.2.2.2.2.2.2.1) (mi_al (ho.2.2.2.2.2.2.2.2.1) (mi_al_e)))))))))) (fun h1 W _ hst => me_ret (M := (1, 4, sb_221)) rfl rfl rfl hst (mi_al (ho.2.2.2.2.2.2.2.2.2) mi_al_e) (kon h1 W))
set_option maxRecDepth 20000 in
theorem mp_ywy_5 (h : sm_H) (d : Nat) (zc : Int) : mi_path [(221, (1, 4, sb_221)), (180, (1, 4, sb_180)), (182, (1, 4, sb_182))] sx_sk h 27 [1, 0, 0, 1, 0, 0, 0] (d + 1, 221, 0, [some (.inl (zc))], [], [], []) = some ((d + 1, 221, 31, [some (.inl (zc))], [.inl ((1 : Int))], [], []), [zc < ((97 : Int)), ((0 : Int)) = 0 ∨ ((0 : Int)) = 1, ((0 : Int)) = ((0 : Int)), ((48 : Int)) ≤ zc, ((57 : Int)) < zc, ((0 : Int)) = 0 ∨ ((0 : Int)) = 1, ((0 : Int)) = ((0 : Int)), ((65 : Int)) ≤ zc, zc ≤ ((90 : Int))]) := rfl
theorem mi_tab_ywy_5 : ∀ e ∈ ([(221, (1, 4, sb_221)), (180, (1, 4, sb_180)), (182, (1, 4, sb_182))] : mi_T), sc_P e.1 = some e.2 := mi_tb mi_P221 (mi_tb mi_P180 (mi_tb mi_P182 (mi_tb_e)))
set_option maxRecDepth 20000 in
theorem ms_ywy_5 {h : sm_H} {d : Nat} {Q : Option mi_V → sm_H → Prop} {zc : Int} (hS : ab_Sh sx_sk h) (ok_zc : mi_in zc) (ho : (zc < ((97 : Int))) ∧ (((0 : Int)) = 0 ∨ ((0 : Int)) = 1) ∧ (((0 : Int)) = ((0 : Int))) ∧ (((48 : Int)) ≤ zc) ∧ (((57 : Int)) < zc) ∧ (((0 : Int)) = 0 ∨ ((0 : Int)) = 1) ∧ (((0 : Int)) = ((0 : Int))) ∧ (((65 : Int)) ≤ zc) ∧ (zc ≤ ((90 : Int))) ∧ (((1 : Int)) = 0 ∨ ((1 : Int)) = 1)) (kon : ∀ h1, me_W [] h h1 → Q (some (.inl ((1 : Int)))) h1) : me_E (d + 1) 221 0 [some (.inl (zc))] [] h Q := me_seg (mp_ywy_5 h d zc) (mi_tab_ywy_5) hS (mi_okL_c (ok_zc) (mi_okL_e)) (mi_okS_e) (mi_al (ho.1) (mi_al (ho.2.1) (mi_al (ho.2.2.1) (mi_al (ho.2.2.2.1) (mi_al (ho.2.2.2.2.1) (mi_al (ho.2.2.2.2.2.1) (mi_al (ho.2.2.2.2.2.2.1) (mi_al (ho.2.2.2.2.2.2.2.1) (mi_al (ho.2.2.2.2.2.2.2.2.1) (mi_al_e)))))))))) (fun h1 W _ hst => me_ret (M := (1, 4, sb_221)) rfl rfl rfl hst (mi_al (ho.2.2.2.2.2.2.2.2.2) mi_al_e) (kon h1 W))
set_option maxRecDepth 20000 in
theorem mp_ywy_6 (h : sm_H) (d : Nat) (zc : Int) : mi_path [(221, (1, 4, sb_221)), (180, (1, 4, sb_180)), (182, (1, 4, sb_182))] sx_sk h 22 [1, 0, 0, 0, 1] (d + 1, 221, 0, [some (.inl (zc))], [], [], []) = some ((d + 1, 221, 31, [some (.inl (zc))], [.inl ((1 : Int))], [], []), [zc < ((97 : Int)), ((0 : Int)) = 0 ∨ ((0 : Int)) = 1, ((0 : Int)) = ((0 : Int)), ((48 : Int)) ≤ zc, zc ≤ ((57 : Int)), ((1 : Int)) = 0 ∨ ((1 : Int)) = 1, ((1 : Int)) ≠ ((0 : Int))]) := rfl
theorem mi_tab_ywy_6 : ∀ e ∈ ([(221, (1, 4, sb_221)), (180, (1, 4, sb_180)), (182, (1, 4, sb_182))] : mi_T), sc_P e.1 = some e.2 := mi_tb mi_P221 (mi_tb mi_P180 (mi_tb mi_P182 (mi_tb_e)))
set_option maxRecDepth 20000 in
theorem ms_ywy_6 {h : sm_H} {d : Nat} {Q : Option mi_V → sm_H → Prop} {zc : Int} (hS : ab_Sh sx_sk h) (ok_zc : mi_in zc) (ho : (zc < ((97 : Int))) ∧ (((0 : Int)) = 0 ∨ ((0 : Int)) = 1) ∧ (((0 : Int)) = ((0 : Int))) ∧ (((48 : Int)) ≤ zc) ∧ (zc ≤ ((57 : Int))) ∧ (((1 : Int)) = 0 ∨ ((1 : Int)) = 1) ∧ (((1 : Int)) ≠ ((0 : Int))) ∧ (((1 : Int)) = 0 ∨ ((1 : Int)) = 1)) (kon : ∀ h1, me_W [] h h1 → Q (some (.inl ((1 : Int)))) h1) : me_E (d + 1) 221 0 [some (.inl (zc))] [] h Q := me_seg (mp_ywy_6 h d zc) (mi_tab_ywy_6) hS (mi_okL_c (ok_zc) (mi_okL_e)) (mi_okS_e) (mi_al (ho.1) (mi_al (ho.2.1) (mi_al (ho.2.2.1) (mi_al (ho.2.2.2.1) (mi_al (ho.2.2.2.2.1) (mi_al (ho.2.2.2.2.2.1) (mi_al (ho.2.2.2.2.2.2.1) (mi_al_e)))))))) (fun h1 W _ hst => me_ret (M := (1, 4, sb_221)) rfl rfl rfl hst (mi_al (ho.2.2.2.2.2.2.2) mi_al_e) (kon h1 W))
set_option maxRecDepth 20000 in
theorem mp_ywy_7 (h : sm_H) (d : Nat) (zc : Int) : mi_path [(221, (1, 4, sb_221)), (180, (1, 4, sb_180)), (182, (1, 4, sb_182))] sx_sk h 23 [0, 1, 0, 1, 0, 1] (d + 1, 221, 0, [some (.inl (zc))], [], [], []) = some ((d + 1, 221, 31, [some (.inl (zc))], [.inl ((0 : Int))], [], []), [((97 : Int)) ≤ zc, ((122 : Int)) < zc, ((0 : Int)) = 0 ∨ ((0 : Int)) = 1, ((0 : Int)) = ((0 : Int)), zc < ((48 : Int)), ((0 : Int)) = 0 ∨ ((0 : Int)) = 1, ((0 : Int)) = ((0 : Int)), zc < ((65 : Int))]) := rfl
theorem mi_tab_ywy_7 : ∀ e ∈ ([(221, (1, 4, sb_221)), (180, (1, 4, sb_180)), (182, (1, 4, sb_182))] : mi_T), sc_P e.1 = some e.2 := mi_tb mi_P221 (mi_tb mi_P180 (mi_tb mi_P182 (mi_tb_e)))
set_option maxRecDepth 20000 in
theorem ms_ywy_7 {h : sm_H} {d : Nat} {Q : Option mi_V → sm_H → Prop} {zc : Int} (hS : ab_Sh sx_sk h) (ok_zc : mi_in zc) (ho : (((97 : Int)) ≤ zc) ∧ (((122 : Int)) < zc) ∧ (((0 : Int)) = 0 ∨ ((0 : Int)) = 1) ∧ (((0 : Int)) = ((0 : Int))) ∧ (zc < ((48 : Int))) ∧ (((0 : Int)) = 0 ∨ ((0 : Int)) = 1) ∧ (((0 : Int)) = ((0 : Int))) ∧ (zc < ((65 : Int))) ∧ (((0 : Int)) = 0 ∨ ((0 : Int)) = 1)) (kon : ∀ h1, me_W [] h h1 → Q (some (.inl ((0 : Int)))) h1) : me_E (d + 1) 221 0 [some (.inl (zc))] [] h Q := me_seg (mp_ywy_7 h d zc) (mi_tab_ywy_7) hS (mi_okL_c (ok_zc) (mi_okL_e)) (mi_okS_e) (mi_al (ho.1) (mi_al (ho.2.1) (mi_al (ho.2.2.1) (mi_al (ho.2.2.2.1) (mi_al (ho.2.2.2.2.1) (mi_al (ho.2.2.2.2.2.1) (mi_al (ho.2.2.2.2.2.2.1) (mi_al (ho.2.2.2.2.2.2.2.1) (mi_al_e))))))))) (fun h1 W _ hst => me_ret (M := (1, 4, sb_221)) rfl rfl rfl hst (mi_al (ho.2.2.2.2.2.2.2.2) mi_al_e) (kon h1 W))
set_option maxRecDepth 20000 in
theorem mp_ywy_8 (h : sm_H) (d : Nat) (zc : Int) : mi_path [(221, (1, 4, sb_221)), (180, (1, 4, sb_180)), (182, (1, 4, sb_182))] sx_sk h 26 [0, 1, 0, 1, 0, 0, 1] (d + 1, 221, 0, [some (.inl (zc))], [], [], []) = some ((d + 1, 221, 31, [some (.inl (zc))], [.inl ((0 : Int))], [], []), [((97 : Int)) ≤ zc, ((122 : Int)) < zc, ((0 : Int)) = 0 ∨ ((0 : Int)) = 1, ((0 : Int)) = ((0 : Int)), zc < ((48 : Int)), ((0 : Int)) = 0 ∨ ((0 : Int)) = 1, ((0 : Int)) = ((0 : Int)), ((65 : Int)) ≤ zc, ((90 : Int)) < zc]) := rfl
theorem mi_tab_ywy_8 : ∀ e ∈ ([(221, (1, 4, sb_221)), (180, (1, 4, sb_180)), (182, (1, 4, sb_182))] : mi_T), sc_P e.1 = some e.2 := mi_tb mi_P221 (mi_tb mi_P180 (mi_tb mi_P182 (mi_tb_e)))
set_option maxRecDepth 20000 in
theorem ms_ywy_8 {h : sm_H} {d : Nat} {Q : Option mi_V → sm_H → Prop} {zc : Int} (hS : ab_Sh sx_sk h) (ok_zc : mi_in zc) (ho : (((97 : Int)) ≤ zc) ∧ (((122 : Int)) < zc) ∧ (((0 : Int)) = 0 ∨ ((0 : Int)) = 1) ∧ (((0 : Int)) = ((0 : Int))) ∧ (zc < ((48 : Int))) ∧ (((0 : Int)) = 0 ∨ ((0 : Int)) = 1) ∧ (((0 : Int)) = ((0 : Int))) ∧ (((65 : Int)) ≤ zc) ∧ (((90 : Int)) < zc) ∧ (((0 : Int)) = 0 ∨ ((0 : Int)) = 1)) (kon : ∀ h1, me_W [] h h1 → Q (some (.inl ((0 : Int)))) h1) : me_E (d + 1) 221 0 [some (.inl (zc))] [] h Q := me_seg (mp_ywy_8 h d zc) (mi_tab_ywy_8) hS (mi_okL_c (ok_zc) (mi_okL_e)) (mi_okS_e) (mi_al (ho.1) (mi_al (ho.2.1) (mi_al (ho.2.2.1) (mi_al (ho.2.2.2.1) (mi_al (ho.2.2.2.2.1) (mi_al (ho.2.2.2.2.2.1) (mi_al (ho.2.2.2.2.2.2.1) (mi_al (ho.2.2.2.2.2.2.2.1) (mi_al (ho.2.2.2.2.2.2.2.2.1) (mi_al_e)))))))))) (fun h1 W _ hst => me_ret (M := (1, 4, sb_221)) rfl rfl rfl hst (mi_al (ho.2.2.2.2.2.2.2.2.2) mi_al_e) (kon h1 W))
set_option maxRecDepth 20000 in
theorem mp_ywy_9 (h : sm_H) (d : Nat) (zc : Int) : mi_path [(221, (1, 4, sb_221)), (180, (1, 4, sb_180)), (182, (1, 4, sb_182))] sx_sk h 27 [0, 1, 0, 1, 0, 0, 0] (d + 1, 221, 0, [some (.inl (zc))], [], [], []) = some ((d + 1, 221, 31, [some (.inl (zc))], [.inl ((1 : Int))], [], []), [((97 : Int)) ≤ zc, ((122 : Int)) < zc, ((0 : Int)) = 0 ∨ ((0 : Int)) = 1, ((0 : Int)) = ((0 : Int)), zc < ((48 : Int)), ((0 : Int)) = 0 ∨ ((0 : Int)) = 1, ((0 : Int)) = ((0 : Int)), ((65 : Int)) ≤ zc, zc ≤ ((90 : Int))]) := rfl
theorem mi_tab_ywy_9 : ∀ e ∈ ([(221, (1, 4, sb_221)), (180, (1, 4, sb_180)), (182, (1, 4, sb_182))] : mi_T), sc_P e.1 = some e.2 := mi_tb mi_P221 (mi_tb mi_P180 (mi_tb mi_P182 (mi_tb_e)))
set_option maxRecDepth 20000 in
theorem ms_ywy_9 {h : sm_H} {d : Nat} {Q : Option mi_V → sm_H → Prop} {zc : Int} (hS : ab_Sh sx_sk h) (ok_zc : mi_in zc) (ho : (((97 : Int)) ≤ zc) ∧ (((122 : Int)) < zc) ∧ (((0 : Int)) = 0 ∨ ((0 : Int)) = 1) ∧ (((0 : Int)) = ((0 : Int))) ∧ (zc < ((48 : Int))) ∧ (((0 : Int)) = 0 ∨ ((0 : Int)) = 1) ∧ (((0 : Int)) = ((0 : Int))) ∧ (((65 : Int)) ≤ zc) ∧ (zc ≤ ((90 : Int))) ∧ (((1 : Int)) = 0 ∨ ((1 : Int)) = 1)) (kon : ∀ h1, me_W [] h h1 → Q (some (.inl ((1 : Int)))) h1) : me_E (d + 1) 221 0 [some (.inl (zc))] [] h Q := me_seg (mp_ywy_9 h d zc) (mi_tab_ywy_9) hS (mi_okL_c (ok_zc) (mi_okL_e)) (mi_okS_e) (mi_al (ho.1) (mi_al (ho.2.1) (mi_al (ho.2.2.1) (mi_al (ho.2.2.2.1) (mi_al (ho.2.2.2.2.1) (mi_al (ho.2.2.2.2.2.1) (mi_al (ho.2.2.2.2.2.2.1) (mi_al (ho.2.2.2.2.2.2.2.1) (mi_al (ho.2.2.2.2.2.2.2.2.1) (mi_al_e)))))))))) (fun h1 W _ hst => me_ret (M := (1, 4, sb_221)) rfl rfl rfl hst (mi_al (ho.2.2.2.2.2.2.2.2.2) mi_al_e) (kon h1 W))
set_option maxRecDepth 20000 in
theorem mp_ywy_10 (h : sm_H) (d : Nat) (zc : Int) : mi_path [(221, (1, 4, sb_221)), (180, (1, 4, sb_180)), (182, (1, 4, sb_182))] sx_sk h 26 [0, 1, 0, 0, 1, 0, 1] (d + 1, 221, 0, [some (.inl (zc))], [], [], []) = some ((d + 1, 221, 31, [some (.inl (zc))], [.inl ((0 : Int))], [], []), [((97 : Int)) ≤ zc, ((122 : Int)) < zc, ((0 : Int)) = 0 ∨ ((0 : Int)) = 1, ((0 : Int)) = ((0 : Int)), ((48 : Int)) ≤ zc, ((57 : Int)) < zc, ((0 : Int)) = 0 ∨ ((0 : Int)) = 1, ((0 : Int)) = ((0 : Int)), zc < ((65 : Int))]) := rfl
theorem mi_tab_ywy_10 : ∀ e ∈ ([(221, (1, 4, sb_221)), (180, (1, 4, sb_180)), (182, (1, 4, sb_182))] : mi_T), sc_P e.1 = some e.2 := mi_tb mi_P221 (mi_tb mi_P180 (mi_tb mi_P182 (mi_tb_e)))
set_option maxRecDepth 20000 in
theorem ms_ywy_10 {h : sm_H} {d : Nat} {Q : Option mi_V → sm_H → Prop} {zc : Int} (hS : ab_Sh sx_sk h) (ok_zc : mi_in zc) (ho : (((97 : Int)) ≤ zc) ∧ (((122 : Int)) < zc) ∧ (((0 : Int)) = 0 ∨ ((0 : Int)) = 1) ∧ (((0 : Int)) = ((0 : Int))) ∧ (((48 : Int)) ≤ zc) ∧ (((57 : Int)) < zc) ∧ (((0 : Int)) = 0 ∨ ((0 : Int)) = 1) ∧ (((0 : Int)) = ((0 : Int))) ∧ (zc < ((65 : Int))) ∧ (((0 : Int)) = 0 ∨ ((0 : Int)) = 1)) (kon : ∀ h1, me_W [] h h1 → Q (some (.inl ((0 : Int)))) h1) : me_E (d + 1) 221 0 [some (.inl (zc))] [] h Q := me_seg (mp_ywy_10 h d zc) (mi_tab_ywy_10) hS (mi_okL_c (ok_zc) (mi_okL_e)) (mi_okS_e) (mi_al (ho.1) (mi_al (ho.2.1) (mi_al (ho.2.2.1) (mi_al (ho.2.2.2.1) (mi_al (ho.2.2.2.2.1) (mi_al (ho.2.2.2.2.2.1) (mi_al (ho.2.2.2.2.2.2.1) (mi_al (ho.2.2.2.2.2.2.2.1) (mi_al (ho.2.2.2.2.2.2.2.2.1) (mi_al_e)))))))))) (fun h1 W _ hst => me_ret (M := (1, 4, sb_221)) rfl rfl rfl hst (mi_al (ho.2.2.2.2.2.2.2.2.2) mi_al_e) (kon h1 W))
set_option maxRecDepth 20000 in
theorem mp_ywy_11 (h : sm_H) (d : Nat) (zc : Int) : mi_path [(221, (1, 4, sb_221)), (180, (1, 4, sb_180)), (182, (1, 4, sb_182))] sx_sk h 29 [0, 1, 0, 0, 1, 0, 0, 1] (d + 1, 221, 0, [some (.inl (zc))], [], [], []) = some ((d + 1, 221, 31, [some (.inl (zc))], [.inl ((0 : Int))], [], []), [((97 : Int)) ≤ zc, ((122 : Int)) < zc, ((0 : Int)) = 0 ∨ ((0 : Int)) = 1, ((0 : Int)) = ((0 : Int)), ((48 : Int)) ≤ zc, ((57 : Int)) < zc, ((0 : Int)) = 0 ∨ ((0 : Int)) = 1, ((0 : Int)) = ((0 : Int)), ((65 : Int)) ≤ zc, ((90 : Int)) < zc]) := rfl
theorem mi_tab_ywy_11 : ∀ e ∈ ([(221, (1, 4, sb_221)), (180, (1, 4, sb_180)), (182, (1, 4, sb_182))] : mi_T), sc_P e.1 = some e.2 := mi_tb mi_P221 (mi_tb mi_P180 (mi_tb mi_P182 (mi_tb_e)))
set_option maxRecDepth 20000 in
theorem ms_ywy_11 {h : sm_H} {d : Nat} {Q : Option mi_V → sm_H → Prop} {zc : Int} (hS : ab_Sh sx_sk h) (ok_zc : mi_in zc) (ho : (((97 : Int)) ≤ zc) ∧ (((122 : Int)) < zc) ∧ (((0 : Int)) = 0 ∨ ((0 : Int)) = 1) ∧ (((0 : Int)) = ((0 : Int))) ∧ (((48 : Int)) ≤ zc) ∧ (((57 : Int)) < zc) ∧ (((0 : Int)) = 0 ∨ ((0 : Int)) = 1) ∧ (((0 : Int)) = ((0 : Int))) ∧ (((65 : Int)) ≤ zc) ∧ (((90 : Int)) < zc) ∧ (((0 : Int)) = 0 ∨ ((0 : Int)) = 1)) (kon : ∀ h1, me_W [] h h1 → Q (some (.inl ((0 : Int)))) h1) : me_E (d + 1) 221 0 [some (.inl (zc))] [] h Q := me_seg (mp_ywy_11 h d zc) (mi_tab_ywy_11) hS (mi_okL_c (ok_zc) (mi_okL_e)) (mi_okS_e) (mi_al (ho.1) (mi_al (ho.2.1) (mi_al (ho.2.2.1) (mi_al (ho.2.2.2.1) (mi_al (ho.2.2.2.2.1) (mi_al (ho.2.2.2.2.2.1) (mi_al (ho.2.2.2.2.2.2.1) (mi_al (ho.2.2.2.2.2.2.2.1) (mi_al (ho.2.2.2.2.2.2.2.2.1) (mi_al (ho.2.2.2.2.2.2.2.2.2.1) (mi_al_e))))))))))) (fun h1 W _ hst => me_ret (M := (1, 4, sb_221)) rfl rfl rfl hst (mi_al (ho.2.2.2.2.2.2.2.2.2.2) mi_al_e) (kon h1 W))
set_option maxRecDepth 20000 in
theorem mp_ywy_12 (h : sm_H) (d : Nat) (zc : Int) : mi_path [(221, (1, 4, sb_221)), (180, (1, 4, sb_180)), (182, (1, 4, sb_182))] sx_sk h 30 [0, 1, 0, 0, 1, 0, 0, 0] (d + 1, 221, 0, [some (.inl (zc))], [], [], []) = some ((d + 1, 221, 31, [some (.inl (zc))], [.inl ((1 : Int))], [], []), [((97 : Int)) ≤ zc, ((122 : Int)) < zc, ((0 : Int)) = 0 ∨ ((0 : Int)) = 1, ((0 : Int)) = ((0 : Int)), ((48 : Int)) ≤ zc, ((57 : Int)) < zc, ((0 : Int)) = 0 ∨ ((0 : Int)) = 1, ((0 : Int)) = ((0 : Int)), ((65 : Int)) ≤ zc, zc ≤ ((90 : Int))]) := rfl
theorem mi_tab_ywy_12 : ∀ e ∈ ([(221, (1, 4, sb_221)), (180, (1, 4, sb_180)), (182, (1, 4, sb_182))] : mi_T), sc_P e.1 = some e.2 := mi_tb mi_P221 (mi_tb mi_P180 (mi_tb mi_P182 (mi_tb_e)))
set_option maxRecDepth 20000 in
theorem ms_ywy_12 {h : sm_H} {d : Nat} {Q : Option mi_V → sm_H → Prop} {zc : Int} (hS : ab_Sh sx_sk h) (ok_zc : mi_in zc) (ho : (((97 : Int)) ≤ zc) ∧ (((122 : Int)) < zc) ∧ (((0 : Int)) = 0 ∨ ((0 : Int)) = 1) ∧ (((0 : Int)) = ((0 : Int))) ∧ (((48 : Int)) ≤ zc) ∧ (((57 : Int)) < zc) ∧ (((0 : Int)) = 0 ∨ ((0 : Int)) = 1) ∧ (((0 : Int)) = ((0 : Int))) ∧ (((65 : Int)) ≤ zc) ∧ (zc ≤ ((90 : Int))) ∧ (((1 : Int)) = 0 ∨ ((1 : Int)) = 1)) (kon : ∀ h1, me_W [] h h1 → Q (some (.inl ((1 : Int)))) h1) : me_E (d + 1) 221 0 [some (.inl (zc))] [] h Q := me_seg (mp_ywy_12 h d zc) (mi_tab_ywy_12) hS (mi_okL_c (ok_zc) (mi_okL_e)) (mi_okS_e) (mi_al (ho.1) (mi_al (ho.2.1) (mi_al (ho.2.2.1) (mi_al (ho.2.2.2.1) (mi_al (ho.2.2.2.2.1) (mi_al (ho.2.2.2.2.2.1) (mi_al (ho.2.2.2.2.2.2.1) (mi_al (ho.2.2.2.2.2.2.2.1) (mi_al (ho.2.2.2.2.2.2.2.2.1) (mi_al (ho.2.2.2.2.2.2.2.2.2.1) (mi_al_e))))))))))) (fun h1 W _ hst => me_ret (M := (1, 4, sb_221)) rfl rfl rfl hst (mi_al (ho.2.2.2.2.2.2.2.2.2.2) mi_al_e) (kon h1 W))
set_option maxRecDepth 20000 in
theorem mp_ywy_13 (h : sm_H) (d : Nat) (zc : Int) : mi_path [(221, (1, 4, sb_221)), (180, (1, 4, sb_180)), (182, (1, 4, sb_182))] sx_sk h 25 [0, 1, 0, 0, 0, 1] (d + 1, 221, 0, [some (.inl (zc))], [], [], []) = some ((d + 1, 221, 31, [some (.inl (zc))], [.inl ((1 : Int))], [], []), [((97 : Int)) ≤ zc, ((122 : Int)) < zc, ((0 : Int)) = 0 ∨ ((0 : Int)) = 1, ((0 : Int)) = ((0 : Int)), ((48 : Int)) ≤ zc, zc ≤ ((57 : Int)), ((1 : Int)) = 0 ∨ ((1 : Int)) = 1, ((1 : Int)) ≠ ((0 : Int))]) := rfl
theorem mi_tab_ywy_13 : ∀ e ∈ ([(221, (1, 4, sb_221)), (180, (1, 4, sb_180)), (182, (1, 4, sb_182))] : mi_T), sc_P e.1 = some e.2 := mi_tb mi_P221 (mi_tb mi_P180 (mi_tb mi_P182 (mi_tb_e)))
set_option maxRecDepth 20000 in
theorem ms_ywy_13 {h : sm_H} {d : Nat} {Q : Option mi_V → sm_H → Prop} {zc : Int} (hS : ab_Sh sx_sk h) (ok_zc : mi_in zc) (ho : (((97 : Int)) ≤ zc) ∧ (((122 : Int)) < zc) ∧ (((0 : Int)) = 0 ∨ ((0 : Int)) = 1) ∧ (((0 : Int)) = ((0 : Int))) ∧ (((48 : Int)) ≤ zc) ∧ (zc ≤ ((57 : Int))) ∧ (((1 : Int)) = 0 ∨ ((1 : Int)) = 1) ∧ (((1 : Int)) ≠ ((0 : Int))) ∧ (((1 : Int)) = 0 ∨ ((1 : Int)) = 1)) (kon : ∀ h1, me_W [] h h1 → Q (some (.inl ((1 : Int)))) h1) : me_E (d + 1) 221 0 [some (.inl (zc))] [] h Q := me_seg (mp_ywy_13 h d zc) (mi_tab_ywy_13) hS (mi_okL_c (ok_zc) (mi_okL_e)) (mi_okS_e) (mi_al (ho.1) (mi_al (ho.2.1) (mi_al (ho.2.2.1) (mi_al (ho.2.2.2.1) (mi_al (ho.2.2.2.2.1) (mi_al (ho.2.2.2.2.2.1) (mi_al (ho.2.2.2.2.2.2.1) (mi_al (ho.2.2.2.2.2.2.2.1) (mi_al_e))))))))) (fun h1 W _ hst => me_ret (M := (1, 4, sb_221)) rfl rfl rfl hst (mi_al (ho.2.2.2.2.2.2.2.2) mi_al_e) (kon h1 W))
set_option maxRecDepth 20000 in
theorem mp_ywy_14 (h : sm_H) (d : Nat) (zc : Int) : mi_path [(221, (1, 4, sb_221)), (180, (1, 4, sb_180)), (182, (1, 4, sb_182))] sx_sk h 14 [0, 0, 1] (d + 1, 221, 0, [some (.inl (zc))], [], [], []) = some ((d + 1, 221, 31, [some (.inl (zc))], [.inl ((1 : Int))], [], []), [((97 : Int)) ≤ zc, zc ≤ ((122 : Int)), ((1 : Int)) = 0 ∨ ((1 : Int)) = 1, ((1 : Int)) ≠ ((0 : Int))]) := rfl
theorem mi_tab_ywy_14 : ∀ e ∈ ([(221, (1, 4, sb_221)), (180, (1, 4, sb_180)), (182, (1, 4, sb_182))] : mi_T), sc_P e.1 = some e.2 := mi_tb mi_P221 (mi_tb mi_P180 (mi_tb mi_P182 (mi_tb_e)))
set_option maxRecDepth 20000 in
theorem ms_ywy_14 {h : sm_H} {d : Nat} {Q : Option mi_V → sm_H → Prop} {zc : Int} (hS : ab_Sh sx_sk h) (ok_zc : mi_in zc) (ho : (((97 : Int)) ≤ zc) ∧ (zc ≤ ((122 : Int))) ∧ (((1 : Int)) = 0 ∨ ((1 : Int)) = 1) ∧ (((1 : Int)) ≠ ((0 : Int))) ∧ (((1 : Int)) = 0 ∨ ((1 : Int)) = 1)) (kon : ∀ h1, me_W [] h h1 → Q (some (.inl ((1 : Int)))) h1) : me_E (d + 1) 221 0 [some (.inl (zc))] [] h Q := me_seg (mp_ywy_14 h d zc) (mi_tab_ywy_14) hS (mi_okL_c (ok_zc) (mi_okL_e)) (mi_okS_e) (mi_al (ho.1) (mi_al (ho.2.1) (mi_al (ho.2.2.1) (mi_al (ho.2.2.2.1) (mi_al_e))))) (fun h1 W _ hst => me_ret (M := (1, 4, sb_221)) rfl rfl rfl hst (mi_al (ho.2.2.2.2) mi_al_e) (kon h1 W))
set_option maxRecDepth 20000 in
theorem mt_ywy {h : sm_H} {d : Nat} {Q : Option mi_V → sm_H → Prop} {zc : Int} (hS : ab_Sh sx_sk h) (ok_zc : mi_in zc) (k0 : (zc < ((97 : Int))) → (zc < ((48 : Int))) → (zc < ((65 : Int))) → (∀ h1, ab_Sh sx_sk h1 → ab_Fr [] h h1 → Q (some (.inl ((0 : Int)))) h1)) (k1 : (zc < ((97 : Int))) → (zc < ((48 : Int))) → (((65 : Int)) ≤ zc) → (((90 : Int)) < zc) → (∀ h1, ab_Sh sx_sk h1 → ab_Fr [] h h1 → Q (some (.inl ((0 : Int)))) h1)) (k2 : (zc < ((97 : Int))) → (zc < ((48 : Int))) → (((65 : Int)) ≤ zc) → (zc ≤ ((90 : Int))) → (∀ h1, ab_Sh sx_sk h1 → ab_Fr [] h h1 → Q (some (.inl ((1 : Int)))) h1)) (k3 : (zc < ((97 : Int))) → (((48 : Int)) ≤ zc) → (((57 : Int)) < zc) → (zc < ((65 : Int))) → (∀ h1, ab_Sh sx_sk h1 → ab_Fr [] h h1 → Q (some (.inl ((0 : Int)))) h1)) (k4 : (zc < ((97 : Int))) → (((48 : Int)) ≤ zc) → (((57 : Int)) < zc) → (((65 : Int)) ≤ zc) → (((90 : Int)) < zc) → (∀ h1, ab_Sh sx_sk h1 → ab_Fr [] h h1 → Q (some (.inl ((0 : Int)))) h1)) (k5 : (zc < ((97 : Int))) → (((48 : Int)) ≤ zc) → (((57 : Int)) < zc) → (((65 : Int)) ≤ zc) → (zc ≤ ((90 : Int))) → (∀ h1, ab_Sh sx_sk h1 → ab_Fr [] h h1 → Q (some (.inl ((1 : Int)))) h1)) (k6 : (zc < ((97 : Int))) → (((48 : Int)) ≤ zc) → (zc ≤ ((57 : Int))) → (∀ h1, ab_Sh sx_sk h1 → ab_Fr [] h h1 → Q (some (.inl ((1 : Int)))) h1)) (k7 : (((97 : Int)) ≤ zc) → (((122 : Int)) < zc) → (zc < ((48 : Int))) → (zc < ((65 : Int))) → (∀ h1, ab_Sh sx_sk h1 → ab_Fr [] h h1 → Q (some (.inl ((0 : Int)))) h1)) (k8 : (((97 : Int)) ≤ zc) → (((122 : Int)) < zc) → (zc < ((48 : Int))) → (((65 : Int)) ≤ zc) → (((90 : Int)) < zc) → (∀ h1, ab_Sh sx_sk h1 → ab_Fr [] h h1 → Q (some (.inl ((0 : Int)))) h1)) (k9 : (((97 : Int)) ≤ zc) → (((122 : Int)) < zc) → (zc < ((48 : Int))) → (((65 : Int)) ≤ zc) → (zc ≤ ((90 : Int))) → (∀ h1, ab_Sh sx_sk h1 → ab_Fr [] h h1 → Q (some (.inl ((1 : Int)))) h1)) (k10 : (((97 : Int)) ≤ zc) → (((122 : Int)) < zc) → (((48 : Int)) ≤ zc) → (((57 : Int)) < zc) → (zc < ((65 : Int))) → (∀ h1, ab_Sh sx_sk h1 → ab_Fr [] h h1 → Q (some (.inl ((0 : Int)))) h1)) (k11 : (((97 : Int)) ≤ zc) → (((122 : Int)) < zc) → (((48 : Int)) ≤ zc) → (((57 : Int)) < zc) → (((65 : Int)) ≤ zc) → (((90 : Int)) < zc) → (∀ h1, ab_Sh sx_sk h1 → ab_Fr [] h h1 → Q (some (.inl ((0 : Int)))) h1)) (k12 : (((97 : Int)) ≤ zc) → (((122 : Int)) < zc) → (((48 : Int)) ≤ zc) → (((57 : Int)) < zc) → (((65 : Int)) ≤ zc) → (zc ≤ ((90 : Int))) → (∀ h1, ab_Sh sx_sk h1 → ab_Fr [] h h1 → Q (some (.inl ((1 : Int)))) h1)) (k13 : (((97 : Int)) ≤ zc) → (((122 : Int)) < zc) → (((48 : Int)) ≤ zc) → (zc ≤ ((57 : Int))) → (∀ h1, ab_Sh sx_sk h1 → ab_Fr [] h h1 → Q (some (.inl ((1 : Int)))) h1)) (k14 : (((97 : Int)) ≤ zc) → (zc ≤ ((122 : Int))) → (∀ h1, ab_Sh sx_sk h1 → ab_Fr [] h h1 → Q (some (.inl ((1 : Int)))) h1)) : me_E (d + 1) 221 0 [some (.inl (zc))] [] h Q := Or.elim (mi_em .lt (zc) (((97 : Int)))) (fun c0 => Or.elim (mi_em .lt (zc) (((48 : Int)))) (fun c1 => Or.elim (mi_em .lt (zc) (((65 : Int)))) (fun c2 => ms_ywy_0 hS ok_zc ⟨c0, (by decide), (by decide), c1, (by decide), (by decide), c2, (by decide)⟩ (fun h1 W => (k0 c0 c1 c2) h1 W.1 (W.2.2.2.2.2 _ rfl))) (fun c2 => Or.elim (mi_em .gt (zc) (((90 : Int)))) (fun c3 => ms_ywy_1 hS ok_zc ⟨c0, (by decide), (by decide), c1, (by decide), (by decide), c2, c3, (by decide)⟩ (fun h1 W => (k1 c0 c1 c2 c3) h1 W.1 (W.2.2.2.2.2 _ rfl))) (fun c3 => ms_ywy_2 hS ok_zc ⟨c0, (by decide), (by decide), c1, (by decide), (by decide), c2, c3, (by decide)⟩ (fun h1 W => (k2 c0 c1 c2 c3) h1 W.1 (W.2.2.2.2.2 _ rfl))))) (fun c1 => Or.elim (mi_em .gt (zc) (((57 : Int)))) (fun c2 => Or.elim (mi_em .lt (zc) (((65 : Int)))) (fun c3 => ms_ywy_3 hS ok_zc ⟨c0, (by decide), (by decide), c1, c2, (by decide), (by decide), c3, (by decide)⟩ (fun h1 W => (k3 c0 c1 c2 c3) h1 W.1 (W.2.2.2.2.2 _ rfl))) (fun c3 => Or.elim (mi_em .gt (zc) (((90 : Int)))) (fun c4 => ms_ywy_4 hS ok_zc ⟨c0, (by decide), (by decide), c1, c2, (by decide), (by decide), c3, c4, (by decide)⟩ (fun h1 W => (k4 c0 c1 c2 c3 c4) h1 W.1 (W.2.2.2.2.2 _ rfl))) (fun c4 => ms_ywy_5 hS ok_zc ⟨c0, (by decide), (by decide), c1, c2, (by decide), (by decide), c3, c4, (by decide)⟩ (fun h1 W => (k5 c0 c1 c2 c3 c4) h1 W.1 (W.2.2.2.2.2 _ rfl))))) (fun c2 => ms_ywy_6 hS ok_zc ⟨c0, (by decide), (by decide), c1, c2, (by decide), (by decide), (by decide)⟩ (fun h1 W => (k6 c0 c1 c2) h1 W.1 (W.2.2.2.2.2 _ rfl))))) (fun c0 => Or.elim (mi_em .gt (zc) (((122 : Int)))) (fun c1 => Or.elim (mi_em .lt (zc) (((48 : Int)))) (fun c2 => Or.elim (mi_em .lt (zc) (((65 : Int)))) (fun c3 => ms_ywy_7 hS ok_zc ⟨c0, c1, (by decide), (by decide), c2, (by decide), (by decide), c3, (by decide)⟩ (fun h1 W => (k7 c0 c1 c2 c3) h1 W.1 (W.2.2.2.2.2 _ rfl))) (fun c3 => Or.elim (mi_em .gt (zc) (((90 : Int)))) (fun c4 => ms_ywy_8 hS ok_zc ⟨c0, c1, (by decide), (by decide), c2, (by decide), (by decide), c3, c4, (by decide)⟩ (fun h1 W => (k8 c0 c1 c2 c3 c4) h1 W.1 (W.2.2.2.2.2 _ rfl))) (fun c4 => ms_ywy_9 hS ok_zc ⟨c0, c1, (by decide), (by decide), c2, (by decide), (by decide), c3, c4, (by decide)⟩ (fun h1 W => (k9 c0 c1 c2 c3 c4) h1 W.1 (W.2.2.2.2.2 _ rfl))))) (fun c2 => Or.elim (mi_em .gt (zc) (((57 : Int)))) (fun c3 => Or.elim (mi_em .lt (zc) (((65 : Int)))) (fun c4 => ms_ywy_10 hS ok_zc ⟨c0, c1, (by decide), (by decide), c2, c3, (by decide), (by decide), c4, (by decide)⟩ (fun h1 W => (k10 c0 c1 c2 c3 c4) h1 W.1 (W.2.2.2.2.2 _ rfl))) (fun c4 => Or.elim (mi_em .gt (zc) (((90 : Int)))) (fun c5 => ms_ywy_11 hS ok_zc ⟨c0, c1, (by decide), (by decide), c2, c3, (by decide), (by decide), c4, c5, (by decide)⟩ (fun h1 W => (k11 c0 c1 c2 c3 c4 c5) h1 W.1 (W.2.2.2.2.2 _ rfl))) (fun c5 => ms_ywy_12 hS ok_zc ⟨c0, c1, (by decide), (by decide), c2, c3, (by decide), (by decide), c4, c5, (by decide)⟩ (fun h1 W => (k12 c0 c1 c2 c3 c4 c5) h1 W.1 (W.2.2.2.2.2 _ rfl))))) (fun c3 => ms_ywy_13 hS ok_zc ⟨c0, c1, (by decide), (by decide), c2, c3, (by decide), (by decide), (by decide)⟩ (fun h1 W => (k13 c0 c1 c2 c3) h1 W.1 (W.2.2.2.2.2 _ rfl))))) (fun c1 => ms_ywy_14 hS ok_zc ⟨c0, c1, (by decide), (by decide), (by decide)⟩ (fun h1 W => (k14 c0 c1) h1 W.1 (W.2.2.2.2.2 _ rfl))))
set_option maxRecDepth 20000 in
theorem mp_ybA_0 (h : sm_H) (d : Nat) (zc : Int) : mi_path [(219, (3, 0, sb_219))] sx_sk h 3 [1] (d + 2, 219, 0, [some (.inr (.inr 109)), some (.inl (zc)), none], [], [], []) = some ((d + 2, 219, 54, [some (.inr (.inr 109)), some (.inl (zc)), none], [], [], []), [(mi_f h 14037) ≤ ((0 : Int))]) := rfl
theorem mi_tab_ybA_0 : ∀ e ∈ ([(219, (3, 0, sb_219))] : mi_T), sc_P e.1 = some e.2 := mi_tb mi_P219 (mi_tb_e)
set_option maxRecDepth 20000 in
theorem ms_ybA_0 {h : sm_H} {d : Nat} {Q : Option mi_V → sm_H → Prop} {zc : Int} (hS : ab_Sh sx_sk h) (ok_zc : mi_in zc) (ho : ((mi_f h 14037) ≤ ((0 : Int)))) (kon : ∀ h1, me_W [] h h1 → me_E (d + 2) 219 54 [some (.inr (.inr 109)), some (.inl (zc)), none] [] h1 Q) : me_E (d + 2) 219 0 [some (.inr (.inr 109)), some (.inl (zc)), none] [] h Q := me_seg (mp_ybA_0 h d zc) (mi_tab_ybA_0) hS (mi_okL_c (trivial) (mi_okL_c (ok_zc) (mi_okL_n (mi_okL_e)))) (mi_okS_e) (mi_al (ho) (mi_al_e)) (fun h1 W _ hst => kon h1 W)
set_option maxRecDepth 20000 in
theorem mp_ybA_1 (h : sm_H) (d : Nat) (zc : Int) : mi_path [(219, (3, 0, sb_219))] sx_sk h 6 [0, 1] (d + 2, 219, 0, [some (.inr (.inr 109)), some (.inl (zc)), none], [], [], []) = some ((d + 2, 219, 54, [some (.inr (.inr 109)), some (.inl (zc)), none], [], [], []), [((0 : Int)) < (mi_f h 14037), (mi_f h 14046) = ((0 : Int))]) := rfl
theorem mi_tab_ybA_1 : ∀ e ∈ ([(219, (3, 0, sb_219))] : mi_T), sc_P e.1 = some e.2 := mi_tb mi_P219 (mi_tb_e)
set_option maxRecDepth 20000 in
theorem ms_ybA_1 {h : sm_H} {d : Nat} {Q : Option mi_V → sm_H → Prop} {zc : Int} (hS : ab_Sh sx_sk h) (ok_zc : mi_in zc) (ho : (((0 : Int)) < (mi_f h 14037)) ∧ ((mi_f h 14046) = ((0 : Int)))) (kon : ∀ h1, me_W [] h h1 → me_E (d + 2) 219 54 [some (.inr (.inr 109)), some (.inl (zc)), none] [] h1 Q) : me_E (d + 2) 219 0 [some (.inr (.inr 109)), some (.inl (zc)), none] [] h Q := me_seg (mp_ybA_1 h d zc) (mi_tab_ybA_1) hS (mi_okL_c (trivial) (mi_okL_c (ok_zc) (mi_okL_n (mi_okL_e)))) (mi_okS_e) (mi_al (ho.1) (mi_al (ho.2) (mi_al_e))) (fun h1 W _ hst => kon h1 W)
set_option maxRecDepth 20000 in
theorem mp_ybA_2 (h : sm_H) (d : Nat) (zc : Int) : mi_path [(219, (3, 0, sb_219))] sx_sk h 8 [0, 0] (d + 2, 219, 0, [some (.inr (.inr 109)), some (.inl (zc)), none], [], [], []) = some ((d + 2, 219, 17, [some (.inr (.inr 109)), some (.inl (zc)), none], [.inl ((10 : Int)), .inr (.inr 109)], [], []), [((0 : Int)) < (mi_f h 14037), (mi_f h 14046) ≠ ((0 : Int))]) := rfl
theorem mi_tab_ybA_2 : ∀ e ∈ ([(219, (3, 0, sb_219))] : mi_T), sc_P e.1 = some e.2 := mi_tb mi_P219 (mi_tb_e)
set_option maxRecDepth 20000 in
theorem ms_ybA_2 {h : sm_H} {d : Nat} {Q : Option mi_V → sm_H → Prop} {zc : Int} (hS : ab_Sh sx_sk h) (ok_zc : mi_in zc) (ho : (((0 : Int)) < (mi_f h 14037)) ∧ ((mi_f h 14046) ≠ ((0 : Int)))) (kon : ∀ h1, me_W [] h h1 → ∃ Q1, me_E (d + 1) 220 0 (mi_entry 2 [.inr (.inr 109), .inl ((10 : Int))]) [] h1 Q1 ∧ ∀ w h2, (∀ x, w = some x → mi_ok x) → Q1 w h2 → me_E (d + 2) 219 20 [some (.inr (.inr 109)), some (.inl (zc)), none] (mi_back w []) h2 Q) : me_E (d + 2) 219 0 [some (.inr (.inr 109)), some (.inl (zc)), none] [] h Q := me_seg (mp_ybA_2 h d zc) (mi_tab_ybA_2) hS (mi_okL_c (trivial) (mi_okL_c (ok_zc) (mi_okL_n (mi_okL_e)))) (mi_okS_e) (mi_al (ho.1) (mi_al (ho.2) (mi_al_e))) (fun h1 W _ hst => let ⟨_, k1, k2⟩ := kon h1 W; me_call (M := (3, 0, sb_219)) (M' := (2, 0, sb_220)) rfl rfl rfl rfl (Nat.le_of_ble_eq_true rfl) (Nat.le_of_ble_eq_true rfl) W.1 k1 k2)
set_option maxRecDepth 20000 in
theorem mt_ybA {h : sm_H} {d : Nat} {Q : Option mi_V → sm_H → Prop} {zc : Int} (hS : ab_Sh sx_sk h) (ok_zc : mi_in zc) (k0 : (0 ≤ mi_f h 14037 ∧ mi_f h 14037 ≤ 160) → ((mi_f h 14037) ≤ ((0 : Int))) → (∀ h1, ab_Sh sx_sk h1 → ab_Fr [] h h1 → me_E (d + 2) 219 54 [some (.inr (.inr 109)), some (.inl (zc)), none] [] h1 Q)) (k1 : (0 ≤ mi_f h 14037 ∧ mi_f h 14037 ≤ 160) → (0 ≤ mi_f h 14046 ∧ mi_f h 14046 ≤ 1) → (((0 : Int)) < (mi_f h 14037)) → ((mi_f h 14046) = ((0 : Int))) → (∀ h1, ab_Sh sx_sk h1 → ab_Fr [] h h1 → me_E (d + 2) 219 54 [some (.inr (.inr 109)), some (.inl (zc)), none] [] h1 Q)) (k2 : (0 ≤ mi_f h 14037 ∧ mi_f h 14037 ≤ 160) → (0 ≤ mi_f h 14046 ∧ mi_f h 14046 ≤ 1) → (((0 : Int)) < (mi_f h 14037)) → ((mi_f h 14046) ≠ ((0 : Int))) → (∀ h1, ab_Sh sx_sk h1 → ab_Fr [] h h1 → ∃ Q1, me_E (d + 1) 220 0 (mi_entry 2 [.inr (.inr 109), .inl ((10 : Int))]) [] h1 Q1 ∧ ∀ w h2, (∀ x, w = some x → mi_ok x) → Q1 w h2 → me_E (d + 2) 219 20 [some (.inr (.inr 109)), some (.inl (zc)), none] (mi_back w []) h2 Q)) : me_E (d + 2) 219 0 [some (.inr (.inr 109)), some (.inl (zc)), none] [] h Q := Or.elim (mi_em .le ((mi_f h 14037)) (((0 : Int)))) (fun c0 => ms_ybA_0 hS ok_zc (c0) (fun h1 W => (k0 (me_fb hS rfl) c0) h1 W.1 (W.2.2.2.2.2 _ rfl))) (fun c0 => Or.elim (mi_em .eq ((mi_f h 14046)) (((0 : Int)))) (fun c1 => ms_ybA_1 hS ok_zc ⟨c0, c1⟩ (fun h1 W => (k1 (me_fb hS rfl) (me_fb hS rfl) c0 c1) h1 W.1 (W.2.2.2.2.2 _ rfl))) (fun c1 => ms_ybA_2 hS ok_zc ⟨c0, c1⟩ (fun h1 W => (k2 (me_fb hS rfl) (me_fb hS rfl) c0 c1) h1 W.1 (W.2.2.2.2.2 _ rfl))))
set_option maxRecDepth 20000 in
theorem mp_ybB_0 (h : sm_H) (d : Nat) (zc : Int) : mi_path [(219, (3, 0, sb_219))] sx_sk h 2 [] (d + 2, 219, 20, [some (.inr (.inr 109)), some (.inl (zc)), none], [], [], []) = some ((d + 2, 219, 22, [some (.inr (.inr 109)), some (.inl (zc)), some (.inl ((0 : Int)))], [], [], []), []) := rfl
theorem mi_tab_ybB_0 : ∀ e ∈ ([(219, (3, 0, sb_219))] : mi_T), sc_P e.1 = some e.2 := mi_tb mi_P219 (mi_tb_e)
set_option maxRecDepth 20000 in
theorem ms_ybB_0 {h : sm_H} {d : Nat} {Q : Option mi_V → sm_H → Prop} {zc : Int} (hS : ab_Sh sx_sk h) (ok_zc : mi_in zc) (kon : ∀ h1, me_W [] h h1 → me_E (d + 2) 219 22 [some (.inr (.inr 109)), some (.inl (zc)), some (.inl ((0 : Int)))] [] h1 Q) : me_E (d + 2) 219 20 [some (.inr (.inr 109)), some (.inl (zc)), none] [] h Q := me_seg (mp_ybB_0 h d zc) (mi_tab_ybB_0) hS (mi_okL_c (trivial) (mi_okL_c (ok_zc) (mi_okL_n (mi_okL_e)))) (mi_okS_e) (mi_al_e) (fun h1 W _ hst => kon h1 W)
set_option maxRecDepth 20000 in
theorem mt_ybB {h : sm_H} {d : Nat} {Q : Option mi_V → sm_H → Prop} {zc : Int} (hS : ab_Sh sx_sk h) (ok_zc : mi_in zc) (k0 : (∀ h1, ab_Sh sx_sk h1 → ab_Fr [] h h1 → me_E (d + 2) 219 22 [some (.inr (.inr 109)), some (.inl (zc)), some (.inl ((0 : Int)))] [] h1 Q)) : me_E (d + 2) 219 20 [some (.inr (.inr 109)), some (.inl (zc)), none] [] h Q := ms_ybB_0 hS ok_zc (fun h1 W => (k0) h1 W.1 (W.2.2.2.2.2 _ rfl))
set_option maxRecDepth 20000 in
theorem mp_ybC_0 (h : sm_H) (d : Nat) (zc zk : Int) : mi_path [(219, (3, 0, sb_219))] sx_sk h 7 [1] (d + 2, 219, 22, [some (.inr (.inr 109)), some (.inl (zc)), some (.inl (zk))], [], [], []) = some ((d + 2, 219, 98, [some (.inr (.inr 109)), some (.inl (zc)), some (.inl (zk))], [], [], []), [-2147483648 ≤ ((2 : Int)) * (mi_f h 14036) ∧ ((2 : Int)) * (mi_f h 14036) ≤ 2147483647, (((2 : Int)) * (mi_f h 14036)) ≤ zk]) := rfl
theorem mi_tab_ybC_0 : ∀ e ∈ ([(219, (3, 0, sb_219))] : mi_T), sc_P e.1 = some e.2 := mi_tb mi_P219 (mi_tb_e)
set_option maxRecDepth 20000 in
theorem ms_ybC_0 {h : sm_H} {d : Nat} {Q : Option mi_V → sm_H → Prop} {zc zk : Int} (hS : ab_Sh sx_sk h) (ok_zc : mi_in zc) (ok_zk : mi_in zk) (ho : (-2147483648 ≤ ((2 : Int)) * (mi_f h 14036) ∧ ((2 : Int)) * (mi_f h 14036) ≤ 2147483647) ∧ ((((2 : Int)) * (mi_f h 14036)) ≤ zk)) (kon : ∀ h1, me_W [] h h1 → me_E (d + 2) 219 98 [some (.inr (.inr 109)), some (.inl (zc)), some (.inl (zk))] [] h1 Q) : me_E (d + 2) 219 22 [some (.inr (.inr 109)), some (.inl (zc)), some (.inl (zk))] [] h Q := me_seg (mp_ybC_0 h d zc zk) (mi_tab_ybC_0) hS (mi_okL_c (trivial) (mi_okL_c (ok_zc) (mi_okL_c (ok_zk) (mi_okL_e)))) (mi_okS_e) (mi_al (ho.1) (mi_al (ho.2) (mi_al_e))) (fun h1 W _ hst => kon h1 W)
set_option maxRecDepth 20000 in
theorem mp_ybC_1 (h : sm_H) (d : Nat) (zc zk : Int) : mi_path [(219, (3, 0, sb_219))] sx_sk h 10 [0, 1] (d + 2, 219, 22, [some (.inr (.inr 109)), some (.inl (zc)), some (.inl (zk))], [], [], []) = some ((d + 2, 219, 98, [some (.inr (.inr 109)), some (.inl (zc)), some (.inl (zk))], [], [], []), [-2147483648 ≤ ((2 : Int)) * (mi_f h 14036) ∧ ((2 : Int)) * (mi_f h 14036) ≤ 2147483647, zk < (((2 : Int)) * (mi_f h 14036)), (mi_f h 14044) ≠ ((0 : Int))]) := rfl
theorem mi_tab_ybC_1 : ∀ e ∈ ([(219, (3, 0, sb_219))] : mi_T), sc_P e.1 = some e.2 := mi_tb mi_P219 (mi_tb_e)
set_option maxRecDepth 20000 in
theorem ms_ybC_1 {h : sm_H} {d : Nat} {Q : Option mi_V → sm_H → Prop} {zc zk : Int} (hS : ab_Sh sx_sk h) (ok_zc : mi_in zc) (ok_zk : mi_in zk) (ho : (-2147483648 ≤ ((2 : Int)) * (mi_f h 14036) ∧ ((2 : Int)) * (mi_f h 14036) ≤ 2147483647) ∧ (zk < (((2 : Int)) * (mi_f h 14036))) ∧ ((mi_f h 14044) ≠ ((0 : Int)))) (kon : ∀ h1, me_W [] h h1 → me_E (d + 2) 219 98 [some (.inr (.inr 109)), some (.inl (zc)), some (.inl (zk))] [] h1 Q) : me_E (d + 2) 219 22 [some (.inr (.inr 109)), some (.inl (zc)), some (.inl (zk))] [] h Q := me_seg (mp_ybC_1 h d zc zk) (mi_tab_ybC_1) hS (mi_okL_c (trivial) (mi_okL_c (ok_zc) (mi_okL_c (ok_zk) (mi_okL_e)))) (mi_okS_e) (mi_al (ho.1) (mi_al (ho.2.1) (mi_al (ho.2.2) (mi_al_e)))) (fun h1 W _ hst => kon h1 W)
set_option maxRecDepth 20000 in
theorem mp_ybC_2 (h : sm_H) (d : Nat) (zc zk : Int) : mi_path [(219, (3, 0, sb_219))] sx_sk h 11 [0, 0] (d + 2, 219, 22, [some (.inr (.inr 109)), some (.inl (zc)), some (.inl (zk))], [], [], []) = some ((d + 2, 219, 42, [some (.inr (.inr 109)), some (.inl (zc)), some (.inl (zk))], [.inl ((32 : Int)), .inr (.inr 109)], [], []), [-2147483648 ≤ ((2 : Int)) * (mi_f h 14036) ∧ ((2 : Int)) * (mi_f h 14036) ≤ 2147483647, zk < (((2 : Int)) * (mi_f h 14036)), (mi_f h 14044) = ((0 : Int))]) := rfl
theorem mi_tab_ybC_2 : ∀ e ∈ ([(219, (3, 0, sb_219))] : mi_T), sc_P e.1 = some e.2 := mi_tb mi_P219 (mi_tb_e)
set_option maxRecDepth 20000 in
theorem ms_ybC_2 {h : sm_H} {d : Nat} {Q : Option mi_V → sm_H → Prop} {zc zk : Int} (hS : ab_Sh sx_sk h) (ok_zc : mi_in zc) (ok_zk : mi_in zk) (ho : (-2147483648 ≤ ((2 : Int)) * (mi_f h 14036) ∧ ((2 : Int)) * (mi_f h 14036) ≤ 2147483647) ∧ (zk < (((2 : Int)) * (mi_f h 14036))) ∧ ((mi_f h 14044) = ((0 : Int)))) (kon : ∀ h1, me_W [] h h1 → ∃ Q1, me_E (d + 1) 220 0 (mi_entry 2 [.inr (.inr 109), .inl ((32 : Int))]) [] h1 Q1 ∧ ∀ w h2, (∀ x, w = some x → mi_ok x) → Q1 w h2 → me_E (d + 2) 219 45 [some (.inr (.inr 109)), some (.inl (zc)), some (.inl (zk))] (mi_back w []) h2 Q) : me_E (d + 2) 219 22 [some (.inr (.inr 109)), some (.inl (zc)), some (.inl (zk))] [] h Q := me_seg (mp_ybC_2 h d zc zk) (mi_tab_ybC_2) hS (mi_okL_c (trivial) (mi_okL_c (ok_zc) (mi_okL_c (ok_zk) (mi_okL_e)))) (mi_okS_e) (mi_al (ho.1) (mi_al (ho.2.1) (mi_al (ho.2.2) (mi_al_e)))) (fun h1 W _ hst => let ⟨_, k1, k2⟩ := kon h1 W; me_call (M := (3, 0, sb_219)) (M' := (2, 0, sb_220)) rfl rfl rfl rfl (Nat.le_of_ble_eq_true rfl) (Nat.le_of_ble_eq_true rfl) W.1 k1 k2)
set_option maxRecDepth 20000 in
theorem mt_ybC {h : sm_H} {d : Nat} {Q : Option mi_V → sm_H → Prop} {zc zk : Int} (hS : ab_Sh sx_sk h) (ok_zc : mi_in zc) (ok_zk : mi_in zk) (k0 : ((-2147483648) ≤ mi_f h 14036 ∧ mi_f h 14036 ≤ 2147483647) → ((((2 : Int)) * (mi_f h 14036)) ≤ zk) → ((-2147483648 ≤ ((2 : Int)) * (mi_f h 14036) ∧ ((2 : Int)) * (mi_f h 14036) ≤ 2147483647)) ∧ (∀ h1, ab_Sh sx_sk h1 → ab_Fr [] h h1 → me_E (d + 2) 219 98 [some (.inr (.inr 109)), some (.inl (zc)), some (.inl (zk))] [] h1 Q)) (k1 : ((-2147483648) ≤ mi_f h 14036 ∧ mi_f h 14036 ≤ 2147483647) → (0 ≤ mi_f h 14044 ∧ mi_f h 14044 ≤ 1) → (zk < (((2 : Int)) * (mi_f h 14036))) → ((mi_f h 14044) ≠ ((0 : Int))) → ((-2147483648 ≤ ((2 : Int)) * (mi_f h 14036) ∧ ((2 : Int)) * (mi_f h 14036) ≤ 2147483647)) ∧ (∀ h1, ab_Sh sx_sk h1 → ab_Fr [] h h1 → me_E (d + 2) 219 98 [some (.inr (.inr 109)), some (.inl (zc)), some (.inl (zk))] [] h1 Q)) (k2 : ((-2147483648) ≤ mi_f h 14036 ∧ mi_f h 14036 ≤ 2147483647) → (0 ≤ mi_f h 14044 ∧ mi_f h 14044 ≤ 1) → (zk < (((2 : Int)) * (mi_f h 14036))) → ((mi_f h 14044) = ((0 : Int))) → ((-2147483648 ≤ ((2 : Int)) * (mi_f h 14036) ∧ ((2 : Int)) * (mi_f h 14036) ≤ 2147483647)) ∧ (∀ h1, ab_Sh sx_sk h1 → ab_Fr [] h h1 → ∃ Q1, me_E (d + 1) 220 0 (mi_entry 2 [.inr (.inr 109), .inl ((32 : Int))]) [] h1 Q1 ∧ ∀ w h2, (∀ x, w = some x → mi_ok x) → Q1 w h2 → me_E (d + 2) 219 45 [some (.inr (.inr 109)), some (.inl (zc)), some (.inl (zk))] (mi_back w []) h2 Q)) : me_E (d + 2) 219 22 [some (.inr (.inr 109)), some (.inl (zc)), some (.inl (zk))] [] h Q := Or.elim (mi_em .ge (zk) ((((2 : Int)) * (mi_f h 14036)))) (fun c0 => ms_ybC_0 hS ok_zc ok_zk ⟨(k0 (me_fb hS rfl) c0).1, c0⟩ (fun h1 W => (k0 (me_fb hS rfl) c0).2 h1 W.1 (W.2.2.2.2.2 _ rfl))) (fun c0 => Or.elim (mi_em .ne ((mi_f h 14044)) (((0 : Int)))) (fun c1 => ms_ybC_1 hS ok_zc ok_zk ⟨(k1 (me_fb hS rfl) (me_fb hS rfl) c0 c1).1, c0, c1⟩ (fun h1 W => (k1 (me_fb hS rfl) (me_fb hS rfl) c0 c1).2 h1 W.1 (W.2.2.2.2.2 _ rfl))) (fun c1 => ms_ybC_2 hS ok_zc ok_zk ⟨(k2 (me_fb hS rfl) (me_fb hS rfl) c0 c1).1, c0, c1⟩ (fun h1 W => (k2 (me_fb hS rfl) (me_fb hS rfl) c0 c1).2 h1 W.1 (W.2.2.2.2.2 _ rfl))))
set_option maxRecDepth 20000 in
theorem mp_ybD_0 (h : sm_H) (d : Nat) (zc zk : Int) : mi_path [(219, (3, 0, sb_219))] sx_sk h 2 [] (d + 2, 219, 45, [some (.inr (.inr 109)), some (.inl (zc)), some (.inl (zk))], [], [], []) = some ((d + 2, 219, 22, [some (.inr (.inr 109)), some (.inl (zc)), some (.inl (zk + 1))], [], [], []), [-2147483648 ≤ zk + 1 ∧ zk + 1 ≤ 2147483647]) := rfl
theorem mi_tab_ybD_0 : ∀ e ∈ ([(219, (3, 0, sb_219))] : mi_T), sc_P e.1 = some e.2 := mi_tb mi_P219 (mi_tb_e)
set_option maxRecDepth 20000 in
theorem ms_ybD_0 {h : sm_H} {d : Nat} {Q : Option mi_V → sm_H → Prop} {zc zk : Int} (hS : ab_Sh sx_sk h) (ok_zc : mi_in zc) (ok_zk : mi_in zk) (ho : (-2147483648 ≤ zk + 1 ∧ zk + 1 ≤ 2147483647)) (kon : ∀ h1, me_W [] h h1 → me_E (d + 2) 219 22 [some (.inr (.inr 109)), some (.inl (zc)), some (.inl (zk + 1))] [] h1 Q) : me_E (d + 2) 219 45 [some (.inr (.inr 109)), some (.inl (zc)), some (.inl (zk))] [] h Q := me_seg (mp_ybD_0 h d zc zk) (mi_tab_ybD_0) hS (mi_okL_c (trivial) (mi_okL_c (ok_zc) (mi_okL_c (ok_zk) (mi_okL_e)))) (mi_okS_e) (mi_al (ho) (mi_al_e)) (fun h1 W _ hst => kon h1 W)
set_option maxRecDepth 20000 in
theorem mt_ybD {h : sm_H} {d : Nat} {Q : Option mi_V → sm_H → Prop} {zc zk : Int} (hS : ab_Sh sx_sk h) (ok_zc : mi_in zc) (ok_zk : mi_in zk) (k0 : ((-2147483648 ≤ zk + 1 ∧ zk + 1 ≤ 2147483647)) ∧ (∀ h1, ab_Sh sx_sk h1 → ab_Fr [] h h1 → me_E (d + 2) 219 22 [some (.inr (.inr 109)), some (.inl (zc)), some (.inl (zk + 1))] [] h1 Q)) : me_E (d + 2) 219 45 [some (.inr (.inr 109)), some (.inl (zc)), some (.inl (zk))] [] h Q := ms_ybD_0 hS ok_zc ok_zk ((k0).1) (fun h1 W => (k0).2 h1 W.1 (W.2.2.2.2.2 _ rfl))
set_option maxRecDepth 20000 in
theorem mp_ybE_0 (h : sm_H) (d : Nat) (zc : Int) : mi_path [(219, (3, 0, sb_219))] sx_sk h 3 [1] (d + 2, 219, 54, [some (.inr (.inr 109)), some (.inl (zc)), none], [], [], []) = some ((d + 2, 219, 98, [some (.inr (.inr 109)), some (.inl (zc)), none], [], [], []), [(mi_f h 14037) ≤ ((0 : Int))]) := rfl
theorem mi_tab_ybE_0 : ∀ e ∈ ([(219, (3, 0, sb_219))] : mi_T), sc_P e.1 = some e.2 := mi_tb mi_P219 (mi_tb_e)
set_option maxRecDepth 20000 in
theorem ms_ybE_0 {h : sm_H} {d : Nat} {Q : Option mi_V → sm_H → Prop} {zc : Int} (hS : ab_Sh sx_sk h) (ok_zc : mi_in zc) (ho : ((mi_f h 14037) ≤ ((0 : Int)))) (kon : ∀ h1, me_W [] h h1 → me_E (d + 2) 219 98 [some (.inr (.inr 109)), some (.inl (zc)), none] [] h1 Q) : me_E (d + 2) 219 54 [some (.inr (.inr 109)), some (.inl (zc)), none] [] h Q := me_seg (mp_ybE_0 h d zc) (mi_tab_ybE_0) hS (mi_okL_c (trivial) (mi_okL_c (ok_zc) (mi_okL_n (mi_okL_e)))) (mi_okS_e) (mi_al (ho) (mi_al_e)) (fun h1 W _ hst => kon h1 W)
set_option maxRecDepth 20000 in
theorem mp_ybE_1 (h : sm_H) (d : Nat) (zc : Int) : mi_path [(219, (3, 0, sb_219))] sx_sk h 8 [0, 1] (d + 2, 219, 54, [some (.inr (.inr 109)), some (.inl (zc)), none], [], [], []) = some ((d + 2, 219, 95, [some (.inr (.inr 109)), some (.inl (zc)), none], [.inl ((32 : Int)), .inr (.inr 109)], [], []), [((0 : Int)) < (mi_f h 14037), (mi_f h 14045) ≠ ((0 : Int))]) := rfl
theorem mi_tab_ybE_1 : ∀ e ∈ ([(219, (3, 0, sb_219))] : mi_T), sc_P e.1 = some e.2 := mi_tb mi_P219 (mi_tb_e)
set_option maxRecDepth 20000 in
theorem ms_ybE_1 {h : sm_H} {d : Nat} {Q : Option mi_V → sm_H → Prop} {zc : Int} (hS : ab_Sh sx_sk h) (ok_zc : mi_in zc) (ho : (((0 : Int)) < (mi_f h 14037)) ∧ ((mi_f h 14045) ≠ ((0 : Int)))) (kon : ∀ h1, me_W [] h h1 → ∃ Q1, me_E (d + 1) 220 0 (mi_entry 2 [.inr (.inr 109), .inl ((32 : Int))]) [] h1 Q1 ∧ ∀ w h2, (∀ x, w = some x → mi_ok x) → Q1 w h2 → me_E (d + 2) 219 98 [some (.inr (.inr 109)), some (.inl (zc)), none] (mi_back w []) h2 Q) : me_E (d + 2) 219 54 [some (.inr (.inr 109)), some (.inl (zc)), none] [] h Q := me_seg (mp_ybE_1 h d zc) (mi_tab_ybE_1) hS (mi_okL_c (trivial) (mi_okL_c (ok_zc) (mi_okL_n (mi_okL_e)))) (mi_okS_e) (mi_al (ho.1) (mi_al (ho.2) (mi_al_e))) (fun h1 W _ hst => let ⟨_, k1, k2⟩ := kon h1 W; me_call (M := (3, 0, sb_219)) (M' := (2, 0, sb_220)) rfl rfl rfl rfl (Nat.le_of_ble_eq_true rfl) (Nat.le_of_ble_eq_true rfl) W.1 k1 k2)
set_option maxRecDepth 20000 in
theorem mp_ybE_2 (h : sm_H) (d : Nat) (zc : Int) : mi_path [(219, (3, 0, sb_219))] sx_sk h 13 [0, 0, 8] (d + 2, 219, 54, [some (.inr (.inr 109)), some (.inl (zc)), none], [], [], []) = some ((d + 2, 219, 79, [some (.inr (.inr 109)), some (.inl (zc)), none], [.inl (mi_a h 170 (Int.toNat ((mi_f h 14037) - ((1 : Int)))))], [], []), [((0 : Int)) < (mi_f h 14037), (mi_f h 14045) = ((0 : Int)), -2147483648 ≤ (mi_f h 14037) - ((1 : Int)) ∧ (mi_f h 14037) - ((1 : Int)) ≤ 2147483647, 0 ≤ ((mi_f h 14037) - ((1 : Int))) ∧ ((mi_f h 14037) - ((1 : Int))) < 160]) := rfl
theorem mi_tab_ybE_2 : ∀ e ∈ ([(219, (3, 0, sb_219))] : mi_T), sc_P e.1 = some e.2 := mi_tb mi_P219 (mi_tb_e)
set_option maxRecDepth 20000 in
theorem ms_ybE_2 {h : sm_H} {d : Nat} {Q : Option mi_V → sm_H → Prop} {zc : Int} (hS : ab_Sh sx_sk h) (ok_zc : mi_in zc) (ho : (((0 : Int)) < (mi_f h 14037)) ∧ ((mi_f h 14045) = ((0 : Int))) ∧ (-2147483648 ≤ (mi_f h 14037) - ((1 : Int)) ∧ (mi_f h 14037) - ((1 : Int)) ≤ 2147483647) ∧ (0 ≤ ((mi_f h 14037) - ((1 : Int))) ∧ ((mi_f h 14037) - ((1 : Int))) < 160)) (kon : ∀ h1, me_W [] h h1 → ∃ Q1, me_E (d + 1) 221 0 (mi_entry 1 [.inl (mi_a h 170 (Int.toNat ((mi_f h 14037) - ((1 : Int)))))]) [] h1 Q1 ∧ ∀ w h2, (∀ x, w = some x → mi_ok x) → Q1 w h2 → me_E (d + 2) 219 82 [some (.inr (.inr 109)), some (.inl (zc)), none] (mi_back w []) h2 Q) : me_E (d + 2) 219 54 [some (.inr (.inr 109)), some (.inl (zc)), none] [] h Q := me_seg (mp_ybE_2 h d zc) (mi_tab_ybE_2) hS (mi_okL_c (trivial) (mi_okL_c (ok_zc) (mi_okL_n (mi_okL_e)))) (mi_okS_e) (mi_al (ho.1) (mi_al (ho.2.1) (mi_al (ho.2.2.1) (mi_al (ho.2.2.2) (mi_al_e))))) (fun h1 W _ hst => let ⟨_, k1, k2⟩ := kon h1 W; me_call (M := (3, 0, sb_219)) (M' := (1, 4, sb_221)) rfl rfl rfl rfl (Nat.le_of_ble_eq_true rfl) (Nat.le_of_ble_eq_true rfl) W.1 k1 k2)
set_option maxRecDepth 20000 in
theorem mt_ybE {h : sm_H} {d : Nat} {Q : Option mi_V → sm_H → Prop} {zc : Int} (hS : ab_Sh sx_sk h) (ok_zc : mi_in zc) (k0 : (0 ≤ mi_f h 14037 ∧ mi_f h 14037 ≤ 160) → ((mi_f h 14037) ≤ ((0 : Int))) → (∀ h1, ab_Sh sx_sk h1 → ab_Fr [] h h1 → me_E (d + 2) 219 98 [some (.inr (.inr 109)), some (.inl (zc)), none] [] h1 Q)) (k1 : (0 ≤ mi_f h 14037 ∧ mi_f h 14037 ≤ 160) → (0 ≤ mi_f h 14045 ∧ mi_f h 14045 ≤ 1) → (((0 : Int)) < (mi_f h 14037)) → ((mi_f h 14045) ≠ ((0 : Int))) → (∀ h1, ab_Sh sx_sk h1 → ab_Fr [] h h1 → ∃ Q1, me_E (d + 1) 220 0 (mi_entry 2 [.inr (.inr 109), .inl ((32 : Int))]) [] h1 Q1 ∧ ∀ w h2, (∀ x, w = some x → mi_ok x) → Q1 w h2 → me_E (d + 2) 219 98 [some (.inr (.inr 109)), some (.inl (zc)), none] (mi_back w []) h2 Q)) (k2 : (0 ≤ mi_f h 14037 ∧ mi_f h 14037 ≤ 160) → (0 ≤ mi_f h 14045 ∧ mi_f h 14045 ≤ 1) → (((0 : Int)) < (mi_f h 14037)) → ((mi_f h 14045) = ((0 : Int))) → ((-2147483648 ≤ (mi_f h 14037) - ((1 : Int)) ∧ (mi_f h 14037) - ((1 : Int)) ≤ 2147483647) ∧ (0 ≤ ((mi_f h 14037) - ((1 : Int))) ∧ ((mi_f h 14037) - ((1 : Int))) < 160)) ∧ (∀ h1, ab_Sh sx_sk h1 → ab_Fr [] h h1 → ∃ Q1, me_E (d + 1) 221 0 (mi_entry 1 [.inl (mi_a h 170 (Int.toNat ((mi_f h 14037) - ((1 : Int)))))]) [] h1 Q1 ∧ ∀ w h2, (∀ x, w = some x → mi_ok x) → Q1 w h2 → me_E (d + 2) 219 82 [some (.inr (.inr 109)), some (.inl (zc)), none] (mi_back w []) h2 Q)) : me_E (d + 2) 219 54 [some (.inr (.inr 109)), some (.inl (zc)), none] [] h Q := Or.elim (mi_em .le ((mi_f h 14037)) (((0 : Int)))) (fun c0 => ms_ybE_0 hS ok_zc (c0) (fun h1 W => (k0 (me_fb hS rfl) c0) h1 W.1 (W.2.2.2.2.2 _ rfl))) (fun c0 => Or.elim (mi_em .ne ((mi_f h 14045)) (((0 : Int)))) (fun c1 => ms_ybE_1 hS ok_zc ⟨c0, c1⟩ (fun h1 W => (k1 (me_fb hS rfl) (me_fb hS rfl) c0 c1) h1 W.1 (W.2.2.2.2.2 _ rfl))) (fun c1 => ms_ybE_2 hS ok_zc ⟨c0, c1, (k2 (me_fb hS rfl) (me_fb hS rfl) c0 c1).1.1, (k2 (me_fb hS rfl) (me_fb hS rfl) c0 c1).1.2⟩ (fun h1 W => (k2 (me_fb hS rfl) (me_fb hS rfl) c0 c1).2 h1 W.1 (W.2.2.2.2.2 _ rfl))))
set_option maxRecDepth 20000 in
theorem mp_ybF_0 (h : sm_H) (d : Nat) (zc zz : Int) : mi_path [(219, (3, 0, sb_219))] sx_sk h 1 [1] (d + 2, 219, 82, [some (.inr (.inr 109)), some (.inl (zc)), none], [.inl (zz)], [], []) = some ((d + 2, 219, 98, [some (.inr (.inr 109)), some (.inl (zc)), none], [], [], []), [zz = ((0 : Int))]) := rfl
theorem mi_tab_ybF_0 : ∀ e ∈ ([(219, (3, 0, sb_219))] : mi_T), sc_P e.1 = some e.2 := mi_tb mi_P219 (mi_tb_e)
set_option maxRecDepth 20000 in
theorem ms_ybF_0 {h : sm_H} {d : Nat} {Q : Option mi_V → sm_H → Prop} {zc zz : Int} (hS : ab_Sh sx_sk h) (ok_zc : mi_in zc) (ok_zz : mi_in zz) (ho : (zz = ((0 : Int)))) (kon : ∀ h1, me_W [] h h1 → me_E (d + 2) 219 98 [some (.inr (.inr 109)), some (.inl (zc)), none] [] h1 Q) : me_E (d + 2) 219 82 [some (.inr (.inr 109)), some (.inl (zc)), none] [.inl (zz)] h Q := me_seg (mp_ybF_0 h d zc zz) (mi_tab_ybF_0) hS (mi_okL_c (trivial) (mi_okL_c (ok_zc) (mi_okL_n (mi_okL_e)))) (mi_okS_cons (ok_zz) (mi_okS_e)) (mi_al (ho) (mi_al_e)) (fun h1 W _ hst => kon h1 W)
set_option maxRecDepth 20000 in
theorem mp_ybF_1 (h : sm_H) (d : Nat) (zc zz : Int) : mi_path [(219, (3, 0, sb_219))] sx_sk h 2 [0] (d + 2, 219, 82, [some (.inr (.inr 109)), some (.inl (zc)), none], [.inl (zz)], [], []) = some ((d + 2, 219, 86, [some (.inr (.inr 109)), some (.inl (zc)), none], [.inl (zc)], [], []), [zz ≠ ((0 : Int))]) := rfl
theorem mi_tab_ybF_1 : ∀ e ∈ ([(219, (3, 0, sb_219))] : mi_T), sc_P e.1 = some e.2 := mi_tb mi_P219 (mi_tb_e)
set_option maxRecDepth 20000 in
theorem ms_ybF_1 {h : sm_H} {d : Nat} {Q : Option mi_V → sm_H → Prop} {zc zz : Int} (hS : ab_Sh sx_sk h) (ok_zc : mi_in zc) (ok_zz : mi_in zz) (ho : (zz ≠ ((0 : Int)))) (kon : ∀ h1, me_W [] h h1 → ∃ Q1, me_E (d + 1) 221 0 (mi_entry 1 [.inl (zc)]) [] h1 Q1 ∧ ∀ w h2, (∀ x, w = some x → mi_ok x) → Q1 w h2 → me_E (d + 2) 219 89 [some (.inr (.inr 109)), some (.inl (zc)), none] (mi_back w []) h2 Q) : me_E (d + 2) 219 82 [some (.inr (.inr 109)), some (.inl (zc)), none] [.inl (zz)] h Q := me_seg (mp_ybF_1 h d zc zz) (mi_tab_ybF_1) hS (mi_okL_c (trivial) (mi_okL_c (ok_zc) (mi_okL_n (mi_okL_e)))) (mi_okS_cons (ok_zz) (mi_okS_e)) (mi_al (ho) (mi_al_e)) (fun h1 W _ hst => let ⟨_, k1, k2⟩ := kon h1 W; me_call (M := (3, 0, sb_219)) (M' := (1, 4, sb_221)) rfl rfl rfl rfl (Nat.le_of_ble_eq_true rfl) (Nat.le_of_ble_eq_true rfl) W.1 k1 k2)
set_option maxRecDepth 20000 in
theorem mt_ybF {h : sm_H} {d : Nat} {Q : Option mi_V → sm_H → Prop} {zc zz : Int} (hS : ab_Sh sx_sk h) (ok_zc : mi_in zc) (ok_zz : mi_in zz) (k0 : (zz = ((0 : Int))) → (∀ h1, ab_Sh sx_sk h1 → ab_Fr [] h h1 → me_E (d + 2) 219 98 [some (.inr (.inr 109)), some (.inl (zc)), none] [] h1 Q)) (k1 : (zz ≠ ((0 : Int))) → (∀ h1, ab_Sh sx_sk h1 → ab_Fr [] h h1 → ∃ Q1, me_E (d + 1) 221 0 (mi_entry 1 [.inl (zc)]) [] h1 Q1 ∧ ∀ w h2, (∀ x, w = some x → mi_ok x) → Q1 w h2 → me_E (d + 2) 219 89 [some (.inr (.inr 109)), some (.inl (zc)), none] (mi_back w []) h2 Q)) : me_E (d + 2) 219 82 [some (.inr (.inr 109)), some (.inl (zc)), none] [.inl (zz)] h Q := Or.elim (mi_em .eq (zz) (((0 : Int)))) (fun c0 => ms_ybF_0 hS ok_zc ok_zz (c0) (fun h1 W => (k0 c0) h1 W.1 (W.2.2.2.2.2 _ rfl))) (fun c0 => ms_ybF_1 hS ok_zc ok_zz (c0) (fun h1 W => (k1 c0) h1 W.1 (W.2.2.2.2.2 _ rfl)))
set_option maxRecDepth 20000 in
theorem mp_ybG_0 (h : sm_H) (d : Nat) (zc zz : Int) : mi_path [(219, (3, 0, sb_219))] sx_sk h 1 [1] (d + 2, 219, 89, [some (.inr (.inr 109)), some (.inl (zc)), none], [.inl (zz)], [], []) = some ((d + 2, 219, 98, [some (.inr (.inr 109)), some (.inl (zc)), none], [], [], []), [zz = ((0 : Int))]) := rfl
theorem mi_tab_ybG_0 : ∀ e ∈ ([(219, (3, 0, sb_219))] : mi_T), sc_P e.1 = some e.2 := mi_tb mi_P219 (mi_tb_e)
set_option maxRecDepth 20000 in
theorem ms_ybG_0 {h : sm_H} {d : Nat} {Q : Option mi_V → sm_H → Prop} {zc zz : Int} (hS : ab_Sh sx_sk h) (ok_zc : mi_in zc) (ok_zz : mi_in zz) (ho : (zz = ((0 : Int)))) (kon : ∀ h1, me_W [] h h1 → me_E (d + 2) 219 98 [some (.inr (.inr 109)), some (.inl (zc)), none] [] h1 Q) : me_E (d + 2) 219 89 [some (.inr (.inr 109)), some (.inl (zc)), none] [.inl (zz)] h Q := me_seg (mp_ybG_0 h d zc zz) (mi_tab_ybG_0) hS (mi_okL_c (trivial) (mi_okL_c (ok_zc) (mi_okL_n (mi_okL_e)))) (mi_okS_cons (ok_zz) (mi_okS_e)) (mi_al (ho) (mi_al_e)) (fun h1 W _ hst => kon h1 W)
set_option maxRecDepth 20000 in
theorem mp_ybG_1 (h : sm_H) (d : Nat) (zc zz : Int) : mi_path [(219, (3, 0, sb_219))] sx_sk h 3 [0] (d + 2, 219, 89, [some (.inr (.inr 109)), some (.inl (zc)), none], [.inl (zz)], [], []) = some ((d + 2, 219, 95, [some (.inr (.inr 109)), some (.inl (zc)), none], [.inl ((32 : Int)), .inr (.inr 109)], [], []), [zz ≠ ((0 : Int))]) := rfl
theorem mi_tab_ybG_1 : ∀ e ∈ ([(219, (3, 0, sb_219))] : mi_T), sc_P e.1 = some e.2 := mi_tb mi_P219 (mi_tb_e)
set_option maxRecDepth 20000 in
theorem ms_ybG_1 {h : sm_H} {d : Nat} {Q : Option mi_V → sm_H → Prop} {zc zz : Int} (hS : ab_Sh sx_sk h) (ok_zc : mi_in zc) (ok_zz : mi_in zz) (ho : (zz ≠ ((0 : Int)))) (kon : ∀ h1, me_W [] h h1 → ∃ Q1, me_E (d + 1) 220 0 (mi_entry 2 [.inr (.inr 109), .inl ((32 : Int))]) [] h1 Q1 ∧ ∀ w h2, (∀ x, w = some x → mi_ok x) → Q1 w h2 → me_E (d + 2) 219 98 [some (.inr (.inr 109)), some (.inl (zc)), none] (mi_back w []) h2 Q) : me_E (d + 2) 219 89 [some (.inr (.inr 109)), some (.inl (zc)), none] [.inl (zz)] h Q := me_seg (mp_ybG_1 h d zc zz) (mi_tab_ybG_1) hS (mi_okL_c (trivial) (mi_okL_c (ok_zc) (mi_okL_n (mi_okL_e)))) (mi_okS_cons (ok_zz) (mi_okS_e)) (mi_al (ho) (mi_al_e)) (fun h1 W _ hst => let ⟨_, k1, k2⟩ := kon h1 W; me_call (M := (3, 0, sb_219)) (M' := (2, 0, sb_220)) rfl rfl rfl rfl (Nat.le_of_ble_eq_true rfl) (Nat.le_of_ble_eq_true rfl) W.1 k1 k2)
set_option maxRecDepth 20000 in
theorem mt_ybG {h : sm_H} {d : Nat} {Q : Option mi_V → sm_H → Prop} {zc zz : Int} (hS : ab_Sh sx_sk h) (ok_zc : mi_in zc) (ok_zz : mi_in zz) (k0 : (zz = ((0 : Int))) → (∀ h1, ab_Sh sx_sk h1 → ab_Fr [] h h1 → me_E (d + 2) 219 98 [some (.inr (.inr 109)), some (.inl (zc)), none] [] h1 Q)) (k1 : (zz ≠ ((0 : Int))) → (∀ h1, ab_Sh sx_sk h1 → ab_Fr [] h h1 → ∃ Q1, me_E (d + 1) 220 0 (mi_entry 2 [.inr (.inr 109), .inl ((32 : Int))]) [] h1 Q1 ∧ ∀ w h2, (∀ x, w = some x → mi_ok x) → Q1 w h2 → me_E (d + 2) 219 98 [some (.inr (.inr 109)), some (.inl (zc)), none] (mi_back w []) h2 Q)) : me_E (d + 2) 219 89 [some (.inr (.inr 109)), some (.inl (zc)), none] [.inl (zz)] h Q := Or.elim (mi_em .eq (zz) (((0 : Int)))) (fun c0 => ms_ybG_0 hS ok_zc ok_zz (c0) (fun h1 W => (k0 c0) h1 W.1 (W.2.2.2.2.2 _ rfl))) (fun c0 => ms_ybG_1 hS ok_zc ok_zz (c0) (fun h1 W => (k1 c0) h1 W.1 (W.2.2.2.2.2 _ rfl)))
set_option maxRecDepth 20000 in
theorem mp_ybH_0 (h : sm_H) (d : Nat) (zc : Int) (q2 : Option mi_V) : mi_path [(219, (3, 0, sb_219))] sx_sk h 6 [] (d + 2, 219, 98, [some (.inr (.inr 109)), some (.inl (zc)), q2], [], [], []) = some ((d + 2, 219, 108, [some (.inr (.inr 109)), some (.inl (zc)), q2], [], [.inl (14046, (0 : Int)), .inl (14045, (0 : Int))], []), [0 ≤ ((0 : Int)) ∧ ((0 : Int)) ≤ 1, 0 ≤ ((0 : Int)) ∧ ((0 : Int)) ≤ 1, 0 ≤ ((0 : Int)) ∧ ((0 : Int)) ≤ 1, 0 ≤ ((0 : Int)) ∧ ((0 : Int)) ≤ 1]) := rfl
theorem mi_tab_ybH_0 : ∀ e ∈ ([(219, (3, 0, sb_219))] : mi_T), sc_P e.1 = some e.2 := mi_tb mi_P219 (mi_tb_e)
set_option maxRecDepth 20000 in
theorem ms_ybH_0 {h : sm_H} {d : Nat} {Q : Option mi_V → sm_H → Prop} {zc : Int} {q2 : Option mi_V} (hS : ab_Sh sx_sk h) (ok_zc : mi_in zc) (ok_q2 : ∀ v, q2 = some v → mi_ok v) (ho : (0 ≤ ((0 : Int)) ∧ ((0 : Int)) ≤ 1) ∧ (0 ≤ ((0 : Int)) ∧ ((0 : Int)) ≤ 1) ∧ (0 ≤ ((0 : Int)) ∧ ((0 : Int)) ≤ 1) ∧ (0 ≤ ((0 : Int)) ∧ ((0 : Int)) ≤ 1)) (kon : ∀ h1, me_W [.inl (14046, (0 : Int)), .inl (14045, (0 : Int))] h h1 → Q none h1) : me_E (d + 2) 219 98 [some (.inr (.inr 109)), some (.inl (zc)), q2] [] h Q := me_seg (mp_ybH_0 h d zc q2) (mi_tab_ybH_0) hS (mi_okL_c (trivial) (mi_okL_c (ok_zc) (mi_okL_o ok_q2 (mi_okL_e)))) (mi_okS_e) (mi_al (ho.1) (mi_al (ho.2.1) (mi_al (ho.2.2.1) (mi_al (ho.2.2.2) (mi_al_e))))) (fun h1 W _ hst => me_ret (M := (3, 0, sb_219)) rfl rfl rfl hst (mi_al_e) (kon h1 W))
set_option maxRecDepth 20000 in
theorem mt_ybH {h : sm_H} {d : Nat} {Q : Option mi_V → sm_H → Prop} {zc : Int} {q2 : Option mi_V} (hS : ab_Sh sx_sk h) (ok_zc : mi_in zc) (ok_q2 : ∀ v, q2 = some v → mi_ok v) (k0 : (∀ h1, ab_Sh sx_sk h1 → mi_f h1 14045 = (0 : Int) → mi_f h1 14046 = (0 : Int) → ab_Fr [(14045, 14047)] h h1 → Q none h1)) : me_E (d + 2) 219 98 [some (.inr (.inr 109)), some (.inl (zc)), q2] [] h Q := ms_ybH_0 hS ok_zc ok_q2 ⟨(by decide), (by decide), (by decide), (by decide)⟩ (fun h1 W => (k0) h1 W.1 (W.2.1 14045) (W.2.1 14046) (W.2.2.2.2.2 _ rfl))
set_option maxRecDepth 20000 in
theorem mp_ylA_0 (h : sm_H) (d : Nat) (zs : Int) : mi_path [(222, (2, 0, sb_222))] sx_sk h 7 [1] (d, 222, 0, [some (.inr (.inr 109)), some (.inl (zs))], [], [], []) = some ((d, 222, 21, [some (.inr (.inr 109)), some (.inl (zs))], [], [.inl (14045, (1 : Int))], []), [(mi_f h 14045) ≠ ((0 : Int)), 0 ≤ ((1 : Int)) ∧ ((1 : Int)) ≤ 1, 0 ≤ ((1 : Int)) ∧ ((1 : Int)) ≤ 1]) := rfl
theorem mi_tab_ylA_0 : ∀ e ∈ ([(222, (2, 0, sb_222))] : mi_T), sc_P e.1 = some e.2 := mi_tb mi_P222 (mi_tb_e)
set_option maxRecDepth 20000 in
theorem ms_ylA_0 {h : sm_H} {d : Nat} {Q : Option mi_V → sm_H → Prop} {zs : Int} (hS : ab_Sh sx_sk h) (ok_zs : mi_in zs) (ho : ((mi_f h 14045) ≠ ((0 : Int))) ∧ (0 ≤ ((1 : Int)) ∧ ((1 : Int)) ≤ 1) ∧ (0 ≤ ((1 : Int)) ∧ ((1 : Int)) ≤ 1)) (kon : ∀ h1, me_W [.inl (14045, (1 : Int))] h h1 → me_E (d) 222 21 [some (.inr (.inr 109)), some (.inl (zs))] [] h1 Q) : me_E (d) 222 0 [some (.inr (.inr 109)), some (.inl (zs))] [] h Q := me_seg (mp_ylA_0 h d zs) (mi_tab_ylA_0) hS (mi_okL_c (trivial) (mi_okL_c (ok_zs) (mi_okL_e))) (mi_okS_e) (mi_al (ho.1) (mi_al (ho.2.1) (mi_al (ho.2.2) (mi_al_e)))) (fun h1 W _ hst => kon h1 W)
set_option maxRecDepth 20000 in
theorem mp_ylA_1 (h : sm_H) (d : Nat) (zs : Int) : mi_path [(222, (2, 0, sb_222))] sx_sk h 9 [0, 1] (d, 222, 0, [some (.inr (.inr 109)), some (.inl (zs))], [], [], []) = some ((d, 222, 21, [some (.inr (.inr 109)), some (.inl (zs))], [], [.inl (14045, (0 : Int))], []), [(mi_f h 14045) = ((0 : Int)), zs ≠ ((4 : Int)), 0 ≤ ((0 : Int)) ∧ ((0 : Int)) ≤ 1, 0 ≤ ((0 : Int)) ∧ ((0 : Int)) ≤ 1]) := rfl
theorem mi_tab_ylA_1 : ∀ e ∈ ([(222, (2, 0, sb_222))] : mi_T), sc_P e.1 = some e.2 := mi_tb mi_P222 (mi_tb_e)
set_option maxRecDepth 20000 in
theorem ms_ylA_1 {h : sm_H} {d : Nat} {Q : Option mi_V → sm_H → Prop} {zs : Int} (hS : ab_Sh sx_sk h) (ok_zs : mi_in zs) (ho : ((mi_f h 14045) = ((0 : Int))) ∧ (zs ≠ ((4 : Int))) ∧ (0 ≤ ((0 : Int)) ∧ ((0 : Int)) ≤ 1) ∧ (0 ≤ ((0 : Int)) ∧ ((0 : Int)) ≤ 1)) (kon : ∀ h1, me_W [.inl (14045, (0 : Int))] h h1 → me_E (d) 222 21 [some (.inr (.inr 109)), some (.inl (zs))] [] h1 Q) : me_E (d) 222 0 [some (.inr (.inr 109)), some (.inl (zs))] [] h Q := me_seg (mp_ylA_1 h d zs) (mi_tab_ylA_1) hS (mi_okL_c (trivial) (mi_okL_c (ok_zs) (mi_okL_e))) (mi_okS_e) (mi_al (ho.1) (mi_al (ho.2.1) (mi_al (ho.2.2.1) (mi_al (ho.2.2.2) (mi_al_e))))) (fun h1 W _ hst => kon h1 W)
set_option maxRecDepth 20000 in
theorem mp_ylA_2 (h : sm_H) (d : Nat) (zs : Int) : mi_path [(222, (2, 0, sb_222))] sx_sk h 10 [0, 0] (d, 222, 0, [some (.inr (.inr 109)), some (.inl (zs))], [], [], []) = some ((d, 222, 21, [some (.inr (.inr 109)), some (.inl (zs))], [], [.inl (14045, (1 : Int))], []), [(mi_f h 14045) = ((0 : Int)), zs = ((4 : Int)), 0 ≤ ((1 : Int)) ∧ ((1 : Int)) ≤ 1, 0 ≤ ((1 : Int)) ∧ ((1 : Int)) ≤ 1]) := rfl
theorem mi_tab_ylA_2 : ∀ e ∈ ([(222, (2, 0, sb_222))] : mi_T), sc_P e.1 = some e.2 := mi_tb mi_P222 (mi_tb_e)
set_option maxRecDepth 20000 in
theorem ms_ylA_2 {h : sm_H} {d : Nat} {Q : Option mi_V → sm_H → Prop} {zs : Int} (hS : ab_Sh sx_sk h) (ok_zs : mi_in zs) (ho : ((mi_f h 14045) = ((0 : Int))) ∧ (zs = ((4 : Int))) ∧ (0 ≤ ((1 : Int)) ∧ ((1 : Int)) ≤ 1) ∧ (0 ≤ ((1 : Int)) ∧ ((1 : Int)) ≤ 1)) (kon : ∀ h1, me_W [.inl (14045, (1 : Int))] h h1 → me_E (d) 222 21 [some (.inr (.inr 109)), some (.inl (zs))] [] h1 Q) : me_E (d) 222 0 [some (.inr (.inr 109)), some (.inl (zs))] [] h Q := me_seg (mp_ylA_2 h d zs) (mi_tab_ylA_2) hS (mi_okL_c (trivial) (mi_okL_c (ok_zs) (mi_okL_e))) (mi_okS_e) (mi_al (ho.1) (mi_al (ho.2.1) (mi_al (ho.2.2.1) (mi_al (ho.2.2.2) (mi_al_e))))) (fun h1 W _ hst => kon h1 W)
set_option maxRecDepth 20000 in
theorem mt_ylA {h : sm_H} {d : Nat} {Q : Option mi_V → sm_H → Prop} {zs : Int} (hS : ab_Sh sx_sk h) (ok_zs : mi_in zs) (k0 : (0 ≤ mi_f h 14045 ∧ mi_f h 14045 ≤ 1) → ((mi_f h 14045) ≠ ((0 : Int))) → (∀ h1, ab_Sh sx_sk h1 → mi_f h1 14045 = (1 : Int) → ab_Fr [(14045, 14046)] h h1 → me_E (d) 222 21 [some (.inr (.inr 109)), some (.inl (zs))] [] h1 Q)) (k1 : (0 ≤ mi_f h 14045 ∧ mi_f h 14045 ≤ 1) → ((mi_f h 14045) = ((0 : Int))) → (zs ≠ ((4 : Int))) → (∀ h1, ab_Sh sx_sk h1 → mi_f h1 14045 = (0 : Int) → ab_Fr [(14045, 14046)] h h1 → me_E (d) 222 21 [some (.inr (.inr 109)), some (.inl (zs))] [] h1 Q)) (k2 : (0 ≤ mi_f h 14045 ∧ mi_f h 14045 ≤ 1) → ((mi_f h 14045) = ((0 : Int))) → (zs = ((4 : Int))) → (∀ h1, ab_Sh sx_sk h1 → mi_f h1 14045 = (1 : Int) → ab_Fr [(14045, 14046)] h h1 → me_E (d) 222 21 [some (.inr (.inr 109)), some (.inl (zs))] [] h1 Q)) : me_E (d) 222 0 [some (.inr (.inr 109)), some (.inl (zs))] [] h Q := Or.elim (mi_em .ne ((mi_f h 14045)) (((0 : Int)))) (fun c0 => ms_ylA_0 hS ok_zs ⟨c0, (by decide), (by decide)⟩ (fun h1 W => (k0 (me_fb hS rfl) c0) h1 W.1 (W.2.1 14045) (W.2.2.2.2.2 _ rfl))) (fun c0 => Or.elim (mi_em .ne (zs) (((4 : Int)))) (fun c1 => ms_ylA_1 hS ok_zs ⟨c0, c1, (by decide), (by decide)⟩ (fun h1 W => (k1 (me_fb hS rfl) c0 c1) h1 W.1 (W.2.1 14045) (W.2.2.2.2.2 _ rfl))) (fun c1 => ms_ylA_2 hS ok_zs ⟨c0, c1, (by decide), (by decide)⟩ (fun h1 W => (k2 (me_fb hS rfl) c0 c1) h1 W.1 (W.2.1 14045) (W.2.2.2.2.2 _ rfl))))
set_option maxRecDepth 20000 in
theorem mp_ylB_0 (h : sm_H) (d : Nat) (zs : Int) : mi_path [(222, (2, 0, sb_222))] sx_sk h 7 [1] (d, 222, 21, [some (.inr (.inr 109)), some (.inl (zs))], [], [], []) = some ((d, 222, 42, [some (.inr (.inr 109)), some (.inl (zs))], [], [.inl (14046, (1 : Int))], []), [(mi_f h 14046) ≠ ((0 : Int)), 0 ≤ ((1 : Int)) ∧ ((1 : Int)) ≤ 1, 0 ≤ ((1 : Int)) ∧ ((1 : Int)) ≤ 1]) := rfl
theorem mi_tab_ylB_0 : ∀ e ∈ ([(222, (2, 0, sb_222))] : mi_T), sc_P e.1 = some e.2 := mi_tb mi_P222 (mi_tb_e)
set_option maxRecDepth 20000 in
theorem ms_ylB_0 {h : sm_H} {d : Nat} {Q : Option mi_V → sm_H → Prop} {zs : Int} (hS : ab_Sh sx_sk h) (ok_zs : mi_in zs) (ho : ((mi_f h 14046) ≠ ((0 : Int))) ∧ (0 ≤ ((1 : Int)) ∧ ((1 : Int)) ≤ 1) ∧ (0 ≤ ((1 : Int)) ∧ ((1 : Int)) ≤ 1)) (kon : ∀ h1, me_W [.inl (14046, (1 : Int))] h h1 → me_E (d) 222 42 [some (.inr (.inr 109)), some (.inl (zs))] [] h1 Q) : me_E (d) 222 21 [some (.inr (.inr 109)), some (.inl (zs))] [] h Q := me_seg (mp_ylB_0 h d zs) (mi_tab_ylB_0) hS (mi_okL_c (trivial) (mi_okL_c (ok_zs) (mi_okL_e))) (mi_okS_e) (mi_al (ho.1) (mi_al (ho.2.1) (mi_al (ho.2.2) (mi_al_e)))) (fun h1 W _ hst => kon h1 W)
set_option maxRecDepth 20000 in
theorem mp_ylB_1 (h : sm_H) (d : Nat) (zs : Int) : mi_path [(222, (2, 0, sb_222))] sx_sk h 9 [0, 1] (d, 222, 21, [some (.inr (.inr 109)), some (.inl (zs))], [], [], []) = some ((d, 222, 42, [some (.inr (.inr 109)), some (.inl (zs))], [], [.inl (14046, (0 : Int))], []), [(mi_f h 14046) = ((0 : Int)), zs ≠ ((5 : Int)), 0 ≤ ((0 : Int)) ∧ ((0 : Int)) ≤ 1, 0 ≤ ((0 : Int)) ∧ ((0 : Int)) ≤ 1]) := rfl
theorem mi_tab_ylB_1 : ∀ e ∈ ([(222, (2, 0, sb_222))] : mi_T), sc_P e.1 = some e.2 := mi_tb mi_P222 (mi_tb_e)
set_option maxRecDepth 20000 in
theorem ms_ylB_1 {h : sm_H} {d : Nat} {Q : Option mi_V → sm_H → Prop} {zs : Int} (hS : ab_Sh sx_sk h) (ok_zs : mi_in zs) (ho : ((mi_f h 14046) = ((0 : Int))) ∧ (zs ≠ ((5 : Int))) ∧ (0 ≤ ((0 : Int)) ∧ ((0 : Int)) ≤ 1) ∧ (0 ≤ ((0 : Int)) ∧ ((0 : Int)) ≤ 1)) (kon : ∀ h1, me_W [.inl (14046, (0 : Int))] h h1 → me_E (d) 222 42 [some (.inr (.inr 109)), some (.inl (zs))] [] h1 Q) : me_E (d) 222 21 [some (.inr (.inr 109)), some (.inl (zs))] [] h Q := me_seg (mp_ylB_1 h d zs) (mi_tab_ylB_1) hS (mi_okL_c (trivial) (mi_okL_c (ok_zs) (mi_okL_e))) (mi_okS_e) (mi_al (ho.1) (mi_al (ho.2.1) (mi_al (ho.2.2.1) (mi_al (ho.2.2.2) (mi_al_e))))) (fun h1 W _ hst => kon h1 W)
set_option maxRecDepth 20000 in
theorem mp_ylB_2 (h : sm_H) (d : Nat) (zs : Int) : mi_path [(222, (2, 0, sb_222))] sx_sk h 10 [0, 0] (d, 222, 21, [some (.inr (.inr 109)), some (.inl (zs))], [], [], []) = some ((d, 222, 42, [some (.inr (.inr 109)), some (.inl (zs))], [], [.inl (14046, (1 : Int))], []), [(mi_f h 14046) = ((0 : Int)), zs = ((5 : Int)), 0 ≤ ((1 : Int)) ∧ ((1 : Int)) ≤ 1, 0 ≤ ((1 : Int)) ∧ ((1 : Int)) ≤ 1]) := rfl
theorem mi_tab_ylB_2 : ∀ e ∈ ([(222, (2, 0, sb_222))] : mi_T), sc_P e.1 = some e.2 := mi_tb mi_P222 (mi_tb_e)
set_option maxRecDepth 20000 in
theorem ms_ylB_2 {h : sm_H} {d : Nat} {Q : Option mi_V → sm_H → Prop} {zs : Int} (hS : ab_Sh sx_sk h) (ok_zs : mi_in zs) (ho : ((mi_f h 14046) = ((0 : Int))) ∧ (zs = ((5 : Int))) ∧ (0 ≤ ((1 : Int)) ∧ ((1 : Int)) ≤ 1) ∧ (0 ≤ ((1 : Int)) ∧ ((1 : Int)) ≤ 1)) (kon : ∀ h1, me_W [.inl (14046, (1 : Int))] h h1 → me_E (d) 222 42 [some (.inr (.inr 109)), some (.inl (zs))] [] h1 Q) : me_E (d) 222 21 [some (.inr (.inr 109)), some (.inl (zs))] [] h Q := me_seg (mp_ylB_2 h d zs) (mi_tab_ylB_2) hS (mi_okL_c (trivial) (mi_okL_c (ok_zs) (mi_okL_e))) (mi_okS_e) (mi_al (ho.1) (mi_al (ho.2.1) (mi_al (ho.2.2.1) (mi_al (ho.2.2.2) (mi_al_e))))) (fun h1 W _ hst => kon h1 W)
set_option maxRecDepth 20000 in
theorem mt_ylB {h : sm_H} {d : Nat} {Q : Option mi_V → sm_H → Prop} {zs : Int} (hS : ab_Sh sx_sk h) (ok_zs : mi_in zs) (k0 : (0 ≤ mi_f h 14046 ∧ mi_f h 14046 ≤ 1) → ((mi_f h 14046) ≠ ((0 : Int))) → (∀ h1, ab_Sh sx_sk h1 → mi_f h1 14046 = (1 : Int) → ab_Fr [(14046, 14047)] h h1 → me_E (d) 222 42 [some (.inr (.inr 109)), some (.inl (zs))] [] h1 Q)) (k1 : (0 ≤ mi_f h 14046 ∧ mi_f h 14046 ≤ 1) → ((mi_f h 14046) = ((0 : Int))) → (zs ≠ ((5 : Int))) → (∀ h1, ab_Sh sx_sk h1 → mi_f h1 14046 = (0 : Int) → ab_Fr [(14046, 14047)] h h1 → me_E (d) 222 42 [some (.inr (.inr 109)), some (.inl (zs))] [] h1 Q)) (k2 : (0 ≤ mi_f h 14046 ∧ mi_f h 14046 ≤ 1) → ((mi_f h 14046) = ((0 : Int))) → (zs = ((5 : Int))) → (∀ h1, ab_Sh sx_sk h1 → mi_f h1 14046 = (1 : Int) → ab_Fr [(14046, 14047)] h h1 → me_E (d) 222 42 [some (.inr (.inr 109)), some (.inl (zs))] [] h1 Q)) : me_E (d) 222 21 [some (.inr (.inr 109)), some (.inl (zs))] [] h Q := Or.elim (mi_em .ne ((mi_f h 14046)) (((0 : Int)))) (fun c0 => ms_ylB_0 hS ok_zs ⟨c0, (by decide), (by decide)⟩ (fun h1 W => (k0 (me_fb hS rfl) c0) h1 W.1 (W.2.1 14046) (W.2.2.2.2.2 _ rfl))) (fun c0 => Or.elim (mi_em .ne (zs) (((5 : Int)))) (fun c1 => ms_ylB_1 hS ok_zs ⟨c0, c1, (by decide), (by decide)⟩ (fun h1 W => (k1 (me_fb hS rfl) c0 c1) h1 W.1 (W.2.1 14046) (W.2.2.2.2.2 _ rfl))) (fun c1 => ms_ylB_2 hS ok_zs ⟨c0, c1, (by decide), (by decide)⟩ (fun h1 W => (k2 (me_fb hS rfl) c0 c1) h1 W.1 (W.2.1 14046) (W.2.2.2.2.2 _ rfl))))
set_option maxRecDepth 20000 in
theorem mp_ylC_0 (h : sm_H) (d : Nat) (zs : Int) : mi_path [(222, (2, 0, sb_222))] sx_sk h 10 [1, 1] (d, 222, 42, [some (.inr (.inr 109)), some (.inl (zs))], [], [], []) = some ((d, 222, 87, [some (.inr (.inr 109)), some (.inl (zs))], [], [.inl (14036, mi_f h 14036)], []), [zs ≠ ((6 : Int)), zs ≠ ((7 : Int))]) := rfl
theorem mi_tab_ylC_0 : ∀ e ∈ ([(222, (2, 0, sb_222))] : mi_T), sc_P e.1 = some e.2 := mi_tb mi_P222 (mi_tb_e)
set_option maxRecDepth 20000 in
theorem ms_ylC_0 {h : sm_H} {d : Nat} {Q : Option mi_V → sm_H → Prop} {zs : Int} (hS : ab_Sh sx_sk h) (ok_zs : mi_in zs) (ho : (zs ≠ ((6 : Int))) ∧ (zs ≠ ((7 : Int)))) (kon : ∀ h1, me_W [.inl (14036, mi_f h 14036)] h h1 → Q none h1) : me_E (d) 222 42 [some (.inr (.inr 109)), some (.inl (zs))] [] h Q := me_seg (mp_ylC_0 h d zs) (mi_tab_ylC_0) hS (mi_okL_c (trivial) (mi_okL_c (ok_zs) (mi_okL_e))) (mi_okS_e) (mi_al (ho.1) (mi_al (ho.2) (mi_al_e))) (fun h1 W _ hst => me_ret (M := (2, 0, sb_222)) rfl rfl rfl hst (mi_al_e) (kon h1 W))
set_option maxRecDepth 20000 in
theorem mp_ylC_1 (h : sm_H) (d : Nat) (zs : Int) : mi_path [(222, (2, 0, sb_222))] sx_sk h 13 [1, 0, 1] (d, 222, 42, [some (.inr (.inr 109)), some (.inl (zs))], [], [], []) = some ((d, 222, 87, [some (.inr (.inr 109)), some (.inl (zs))], [], [.inl (14036, mi_f h 14036)], []), [zs ≠ ((6 : Int)), zs = ((7 : Int)), (mi_f h 14036) ≤ ((0 : Int))]) := rfl
theorem mi_tab_ylC_1 : ∀ e ∈ ([(222, (2, 0, sb_222))] : mi_T), sc_P e.1 = some e.2 := mi_tb mi_P222 (mi_tb_e)
set_option maxRecDepth 20000 in
theorem ms_ylC_1 {h : sm_H} {d : Nat} {Q : Option mi_V → sm_H → Prop} {zs : Int} (hS : ab_Sh sx_sk h) (ok_zs : mi_in zs) (ho : (zs ≠ ((6 : Int))) ∧ (zs = ((7 : Int))) ∧ ((mi_f h 14036) ≤ ((0 : Int)))) (kon : ∀ h1, me_W [.inl (14036, mi_f h 14036)] h h1 → Q none h1) : me_E (d) 222 42 [some (.inr (.inr 109)), some (.inl (zs))] [] h Q := me_seg (mp_ylC_1 h d zs) (mi_tab_ylC_1) hS (mi_okL_c (trivial) (mi_okL_c (ok_zs) (mi_okL_e))) (mi_okS_e) (mi_al (ho.1) (mi_al (ho.2.1) (mi_al (ho.2.2) (mi_al_e)))) (fun h1 W _ hst => me_ret (M := (2, 0, sb_222)) rfl rfl rfl hst (mi_al_e) (kon h1 W))
set_option maxRecDepth 20000 in
theorem mp_ylC_2 (h : sm_H) (d : Nat) (zs : Int) : mi_path [(222, (2, 0, sb_222))] sx_sk h 16 [1, 0, 0, 8] (d, 222, 42, [some (.inr (.inr 109)), some (.inl (zs))], [], [], []) = some ((d, 222, 87, [some (.inr (.inr 109)), some (.inl (zs))], [], [.inl (14036, (mi_f h 14036) - ((1 : Int)))], []), [zs ≠ ((6 : Int)), zs = ((7 : Int)), ((0 : Int)) < (mi_f h 14036), -2147483648 ≤ (mi_f h 14036) - ((1 : Int)) ∧ (mi_f h 14036) - ((1 : Int)) ≤ 2147483647]) := rfl
theorem mi_tab_ylC_2 : ∀ e ∈ ([(222, (2, 0, sb_222))] : mi_T), sc_P e.1 = some e.2 := mi_tb mi_P222 (mi_tb_e)
set_option maxRecDepth 20000 in
theorem ms_ylC_2 {h : sm_H} {d : Nat} {Q : Option mi_V → sm_H → Prop} {zs : Int} (hS : ab_Sh sx_sk h) (ok_zs : mi_in zs) (ho : (zs ≠ ((6 : Int))) ∧ (zs = ((7 : Int))) ∧ (((0 : Int)) < (mi_f h 14036)) ∧ (-2147483648 ≤ (mi_f h 14036) - ((1 : Int)) ∧ (mi_f h 14036) - ((1 : Int)) ≤ 2147483647)) (kon : ∀ h1, me_W [.inl (14036, (mi_f h 14036) - ((1 : Int)))] h h1 → Q none h1) : me_E (d) 222 42 [some (.inr (.inr 109)), some (.inl (zs))] [] h Q := me_seg (mp_ylC_2 h d zs) (mi_tab_ylC_2) hS (mi_okL_c (trivial) (mi_okL_c (ok_zs) (mi_okL_e))) (mi_okS_e) (mi_al (ho.1) (mi_al (ho.2.1) (mi_al (ho.2.2.1) (mi_al (ho.2.2.2) (mi_al_e))))) (fun h1 W _ hst => me_ret (M := (2, 0, sb_222)) rfl rfl rfl hst (mi_al_e) (kon h1 W))
set_option maxRecDepth 20000 in
theorem mp_ylC_3 (h : sm_H) (d : Nat) (zs : Int) : mi_path [(222, (2, 0, sb_222))] sx_sk h 10 [0, 8] (d, 222, 42, [some (.inr (.inr 109)), some (.inl (zs))], [], [], []) = some ((d, 222, 87, [some (.inr (.inr 109)), some (.inl (zs))], [], [.inl (14036, (mi_f h 14036) + ((1 : Int)))], []), [zs = ((6 : Int)), -2147483648 ≤ (mi_f h 14036) + ((1 : Int)) ∧ (mi_f h 14036) + ((1 : Int)) ≤ 2147483647]) := rfl
theorem mi_tab_ylC_3 : ∀ e ∈ ([(222, (2, 0, sb_222))] : mi_T), sc_P e.1 = some e.2 := mi_tb mi_P222 (mi_tb_e)
set_option maxRecDepth 20000 in
theorem ms_ylC_3 {h : sm_H} {d : Nat} {Q : Option mi_V → sm_H → Prop} {zs : Int} (hS : ab_Sh sx_sk h) (ok_zs : mi_in zs) (ho : (zs = ((6 : Int))) ∧ (-2147483648 ≤ (mi_f h 14036) + ((1 : Int)) ∧ (mi_f h 14036) + ((1 : Int)) ≤ 2147483647)) (kon : ∀ h1, me_W [.inl (14036, (mi_f h 14036) + ((1 : Int)))] h h1 → Q none h1) : me_E (d) 222 42 [some (.inr (.inr 109)), some (.inl (zs))] [] h Q := me_seg (mp_ylC_3 h d zs) (mi_tab_ylC_3) hS (mi_okL_c (trivial) (mi_okL_c (ok_zs) (mi_okL_e))) (mi_okS_e) (mi_al (ho.1) (mi_al (ho.2) (mi_al_e))) (fun h1 W _ hst => me_ret (M := (2, 0, sb_222)) rfl rfl rfl hst (mi_al_e) (kon h1 W))
set_option maxRecDepth 20000 in
theorem mt_ylC {h : sm_H} {d : Nat} {Q : Option mi_V → sm_H → Prop} {zs : Int} (hS : ab_Sh sx_sk h) (ok_zs : mi_in zs) (k0 : (zs ≠ ((6 : Int))) → (zs ≠ ((7 : Int))) → (∀ h1, ab_Sh sx_sk h1 → mi_f h1 14036 = mi_f h 14036 → ab_Fr [(14036, 14037)] h h1 → Q none h1)) (k1 : ((-2147483648) ≤ mi_f h 14036 ∧ mi_f h 14036 ≤ 2147483647) → (zs ≠ ((6 : Int))) → (zs = ((7 : Int))) → ((mi_f h 14036) ≤ ((0 : Int))) → (∀ h1, ab_Sh sx_sk h1 → mi_f h1 14036 = mi_f h 14036 → ab_Fr [(14036, 14037)] h h1 → Q none h1)) (k2 : ((-2147483648) ≤ mi_f h 14036 ∧ mi_f h 14036 ≤ 2147483647) → (zs ≠ ((6 : Int))) → (zs = ((7 : Int))) → (((0 : Int)) < (mi_f h 14036)) → ((-2147483648 ≤ (mi_f h 14036) - ((1 : Int)) ∧ (mi_f h 14036) - ((1 : Int)) ≤ 2147483647)) ∧ (∀ h1, ab_Sh sx_sk h1 → mi_f h1 14036 = (mi_f h 14036) - ((1 : Int)) → ab_Fr [(14036, 14037)] h h1 → Q none h1)) (k3 : ((-2147483648) ≤ mi_f h 14036 ∧ mi_f h 14036 ≤ 2147483647) → (zs = ((6 : Int))) → ((-2147483648 ≤ (mi_f h 14036) + ((1 : Int)) ∧ (mi_f h 14036) + ((1 : Int)) ≤ 2147483647)) ∧ (∀ h1, ab_Sh sx_sk h1 → mi_f h1 14036 = (mi_f h 14036) + ((1 : Int)) → ab_Fr [(14036, 14037)] h h1 → Q none h1)) : me_E (d) 222 42 [some (.inr (.inr 109)), some (.inl (zs))] [] h Q := Or.elim (mi_em .ne (zs) (((6 : Int)))) (fun c0 => Or.elim (mi_em .ne (zs) (((7 : Int)))) (fun c1 => ms_ylC_0 hS ok_zs ⟨c0, c1⟩ (fun h1 W => (k0 c0 c1) h1 W.1 (W.2.1 14036) (W.2.2.2.2.2 _ rfl))) (fun c1 => Or.elim (mi_em .le ((mi_f h 14036)) (((0 : Int)))) (fun c2 => ms_ylC_1 hS ok_zs ⟨c0, c1, c2⟩ (fun h1 W => (k1 (me_fb hS rfl) c0 c1 c2) h1 W.1 (W.2.1 14036) (W.2.2.2.2.2 _ rfl))) (fun c2 => ms_ylC_2 hS ok_zs ⟨c0, c1, c2, (k2 (me_fb hS rfl) c0 c1 c2).1⟩ (fun h1 W => (k2 (me_fb hS rfl) c0 c1 c2).2 h1 W.1 (W.2.1 14036) (W.2.2.2.2.2 _ rfl))))) (fun c0 => ms_ylC_3 hS ok_zs ⟨c0, (k3 (me_fb hS rfl) c0).1⟩ (fun h1 W => (k3 (me_fb hS rfl) c0).2 h1 W.1 (W.2.1 14036) (W.2.2.2.2.2 _ rfl)))
/-! WHAT IS PRINTED, purely: the characters, whether a blank, a line is due, how deep; the reference's write, between, layout -/
abbrev ox : Type := List Int × Int × Int × Int
def ow (c : Int) (C : List Int) : Option (List Int) := if 160 ≤ C.length then none else some (C ++ [c])
def owl : List Int → List Int → Option (List Int)
  | [], C => some C
  | c :: W, C => (ow c C).bind (owl W)
def wy (c : Int) : Bool := decide ((97 ≤ c ∧ c ≤ 122) ∨ (48 ≤ c ∧ c ≤ 57) ∨ (65 ≤ c ∧ c ≤ 90))
def olc (C : List Int) : Int := C.getLast?.getD 0
def obw (c : Int) (o : ox) : Option (List Int) := if o.1 ≠ [] ∧ o.2.2.1 ≠ 0 then (ow 10 o.1).bind (owl (List.replicate (2 * o.2.2.2).toNat 32)) else if o.1 ≠ [] ∧ (o.2.1 ≠ 0 ∨ (wy (olc o.1) = true ∧ wy c = true)) then ow 32 o.1 else some o.1
def ob (c : Int) (o : ox) : Option ox := (obw c o).map (fun C => (C, 0, 0, o.2.2.2))
def owx (c : Int) (o : ox) : Option ox := (ow c o.1).map (fun C => (C, o.2))
def owlx (W : List Int) (o : ox) : Option ox := (owl W o.1).map (fun C => (C, o.2))
/-- a token -/
def otk (W : List Int) (o : ox) : Option ox := (ob (W.headD 0) o).bind (owlx W)
/-- what is no token -/
def oly (s : Int) (o : ox) : ox := (o.1, if s = 4 then 1 else o.2.1, if s = 5 then 1 else o.2.2.1, if s = 6 then o.2.2.2 + 1 else if s = 7 ∧ 0 < o.2.2.2 then o.2.2.2 - 1 else o.2.2.2)
def oRo (h : sm_H) (o : ox) : Prop := mi_f h 14037 = (o.1.length : Int) ∧ (∀ k : Nat, k < o.1.length → o.1[k]? = some (mi_a h 170 k)) ∧ mi_f h 14045 = o.2.1 ∧ mi_f h 14046 = o.2.2.1 ∧ mi_f h 14036 = o.2.2.2
def oR (h : sm_H) (x : Option ox) : Prop := (x = none ∧ mi_f h 14044 = 1) ∨ ∃ o, x = some o ∧ mi_f h 14044 = 0 ∧ oRo h o
def wr_p3 : List (Nat × Nat) := [(14037, 14038), (14044, 14045), (21760, 21761)]
section OUT
variable {h : sm_H} {d : Nat} {x : Option ox}
theorem oR_fr {h' : sm_H} {wr : List (Nat × Nat)} (hR : oR h x) (hF : ab_Fr wr h h') (hS : ab_Sh sx_sk h) (hw : (ab_in wr 14036 || ab_in wr 14037 || ab_in wr 14044 || ab_in wr 14045 || ab_in wr 14046 || ab_in wr 21760) = false) : oR h' x := by
  simp only [Bool.or_eq_false_iff] at hw
  obtain ⟨⟨⟨⟨⟨w1, w2⟩, w3⟩, w4⟩, w5⟩, w6⟩ := hw
  rcases hR with ⟨a, b⟩ | ⟨o, a, b, c1, c2, c3, c4, c5⟩
  · exact Or.inl ⟨a, (me_f (c := 14044) hF hS rfl w3).trans b⟩
  · exact Or.inr ⟨o, a, (me_f (c := 14044) hF hS rfl w3).trans b, (me_f (c := 14037) hF hS rfl w2).trans c1, fun k hk => by rw [me_a (k := 170) hF hS rfl w6]; exact c2 k hk, (me_f (c := 14045) hF hS rfl w4).trans c3, (me_f (c := 14046) hF hS rfl w5).trans c4, (me_f (c := 14036) hF hS rfl w1).trans c5⟩
theorem me_wrx {zc : Int} (hS : ab_Sh sx_sk h) (oc : mi_in zc) (hR : oR h x) : me_E d 220 0 [some (.inr (.inr 109)), some (.inl zc)] [] h (fun w h' => w = none ∧ ab_Sh sx_sk h' ∧ ab_Fr wr_p3 h h' ∧ oR h' (x.bind (owx zc))) := by
  rcases hR with ⟨rfl, b⟩ | ⟨o, rfl, b, c1, c2, c3, c4, c5⟩
  · refine mt_ywr hS oc ?_ (by intros; exfalso; omega) (by intros; exfalso; omega)
    intro b1 c h1 g1 g2 g3
    exact ⟨rfl, g1, g3.wide (fun c hc => ab_swr_ok (by decide) hc), Or.inl ⟨rfl, g2⟩⟩
  · refine mt_ywr hS oc (by intros; exfalso; omega) ?_ ?_
    · intro b1 b2 c c'
      refine ⟨by omega, fun h1 g1 g2 g3 g4 g5 => ⟨rfl, g1, g5, Or.inr ⟨(o.1 ++ [zc], o.2), ?_, g3, ?_, fun k hk => ?_, (me_f (c := 14045) g5 hS rfl rfl).trans c3, (me_f (c := 14046) g5 hS rfl rfl).trans c4, (me_f (c := 14036) g5 hS rfl rfl).trans c5⟩⟩⟩
      · show owx zc o = _
        unfold owx ow
        rw [if_neg (by omega)]
        rfl
      · rw [g2, c1, List.length_append]
        rfl
      · dsimp only at hk ⊢
        rw [List.length_append] at hk
        have hk : k < o.1.length + 1 := hk
        rw [g4]
        by_cases e : k = o.1.length
        · rw [if_pos (by omega), e, List.getElem?_append_right (Nat.le_refl _), Nat.sub_self]
          rfl
        · rw [if_neg (by omega), List.getElem?_append_left (by omega)]
          exact c2 k (by omega)
    · intro b1 b2 c c' h1 g1 g2 g3
      refine ⟨rfl, g1, g3.wide (fun c hc => ab_swr_ok (by decide) hc), Or.inl ⟨?_, g2⟩⟩
      show owx zc o = none
      unfold owx ow
      rw [if_pos (by omega)]
      rfl
theorem me_wyx {zc : Int} (hS : ab_Sh sx_sk h) (oc : mi_in zc) : me_E (d + 1) 221 0 [some (.inl zc)] [] h (fun w h' => h' = h ∧ ∃ z, w = some (.inl z) ∧ mi_in z ∧ (z ≠ 0 ↔ wy zc = true)) := by
  have y0 : ¬ ((97 ≤ zc ∧ zc ≤ 122) ∨ (48 ≤ zc ∧ zc ≤ 57) ∨ (65 ≤ zc ∧ zc ≤ 90)) → ((0 : Int) ≠ 0 ↔ wy zc = true) := fun q => by
    unfold wy
    rw [decide_eq_true_eq]
    exact ⟨fun e => absurd rfl e, fun e => absurd e q⟩
  have y1 : ((97 ≤ zc ∧ zc ≤ 122) ∨ (48 ≤ zc ∧ zc ≤ 57) ∨ (65 ≤ zc ∧ zc ≤ 90)) → ((1 : Int) ≠ 0 ↔ wy zc = true) := fun q => by
    unfold wy
    rw [decide_eq_true_eq]
    exact ⟨fun _ => q, fun _ => by decide⟩
  refine mt_ywy hS oc ?_ ?_ ?_ ?_ ?_ ?_ ?_ ?_ ?_ ?_ ?_ ?_ ?_ ?_ ?_
  all_goals intros
  all_goals rename_i g1 g2
  all_goals first
    | exact ⟨me_nil g2, 0, rfl, ⟨by decide, by decide⟩, y0 (by omega)⟩
    | exact ⟨me_nil g2, 1, rfl, ⟨by decide, by decide⟩, y1 (by omega)⟩
theorem be98 {zc : Int} {q2 : Option mi_V} (hS : ab_Sh sx_sk h) (oc : mi_in zc) (o2 : ∀ v, q2 = some v → mi_ok v) (hR : oR h x) : me_E (d + 2) 219 98 [some (.inr (.inr 109)), some (.inl zc), q2] [] h (fun w h' => w = none ∧ ab_Sh sx_sk h' ∧ ab_Fr [(14045, 14047)] h h' ∧ oR h' (x.map (fun o => (o.1, 0, 0, o.2.2.2)))) := by
  refine mt_ybH hS oc o2 ?_
  intro h1 g1 g2 g3 g4
  refine ⟨rfl, g1, g4, ?_⟩
  rcases hR with ⟨rfl, b⟩ | ⟨o, rfl, b, c1, c2, c3, c4, c5⟩
  · exact Or.inl ⟨rfl, (me_f (c := 14044) g4 hS rfl rfl).trans b⟩
  · exact Or.inr ⟨_, rfl, (me_f (c := 14044) g4 hS rfl rfl).trans b, (me_f (c := 14037) g4 hS rfl rfl).trans c1, fun k hk => by rw [me_a (k := 170) g4 hS rfl rfl]; exact c2 k hk, g2, g3, (me_f (c := 14036) g4 hS rfl rfl).trans c5⟩
theorem be22 {zc i b l : Int} (oc : mi_in zc) (i0 : 0 ≤ i) (i1 : i ≤ 100000) : ∀ (m : Nat) (zk : Int) (h : sm_H) (z : Option (List Int)), 2 * i - zk = m → 0 ≤ zk → ab_Sh sx_sk h → mi_f h 14036 = i → oR h (z.map (fun C => (C, b, l, i))) → me_E (d + 2) 219 22 [some (.inr (.inr 109)), some (.inl zc), some (.inl zk)] [] h (fun w h' => w = none ∧ ab_Sh sx_sk h' ∧ ab_Fr wr_pr h h' ∧ oR h' ((z.bind (owl (List.replicate m 32))).map (fun C => (C, 0, 0, i)))) := by
  intro m
  induction m with
  | zero =>
    intro zk h z hm k0 hS hi hR
    have ok : mi_in zk := ⟨by omega, by omega⟩
    refine mt_ybC hS oc ok ?_ (by intros; exfalso; omega) (by intros; exfalso; omega)
    intro b1 c
    refine ⟨by omega, fun h1 g1 g2 => ?_⟩
    have e := me_nil g2
    subst e
    refine (be98 g1 oc (me_oi ok) hR).imp (fun w h' hq => ⟨hq.1, hq.2.1, hq.2.2.1.wide (fun c hc => ab_swr_ok (by decide) hc), ?_⟩)
    have := hq.2.2.2
    cases z with
    | none => exact this
    | some C => exact this
  | succ m ih =>
    intro zk h z hm k0 hS hi hR
    have ok : mi_in zk := ⟨by omega, by omega⟩
    refine mt_ybC hS oc ok (by intros; exfalso; omega) ?_ ?_
    · intro b1 b2 c c'
      refine ⟨by omega, fun h1 g1 g2 => ?_⟩
      have e := me_nil g2
      subst e
      have hz : z = none := by
        rcases hR with ⟨a, -⟩ | ⟨o, -, a, -⟩
        · cases z with
          | none => rfl
          | some C => cases a
        · exact absurd a c'
      subst hz
      refine (be98 g1 oc (me_oi ok) hR).imp (fun w h' hq => ⟨hq.1, hq.2.1, hq.2.2.1.wide (fun c hc => ab_swr_ok (by decide) hc), hq.2.2.2⟩)
    · intro b1 b2 c c'
      refine ⟨by omega, fun h1 g1 g2 => ?_⟩
      have e := me_nil g2
      subst e
      refine ⟨_, me_wrx g1 ⟨by decide, by decide⟩ hR, fun w h2 hw hq => ?_⟩
      obtain ⟨rfl, q1, q2, q3⟩ := hq
      refine mt_ybD q1 oc ok ?_
      refine ⟨by omega, fun h3 r1 r2 => ?_⟩
      have e := me_nil r2
      subst e
      have hz : ∃ C, z = some C := by
        rcases hR with ⟨-, a⟩ | ⟨o, a, -⟩
        · exfalso; omega
        · cases z with
          | none => cases a
          | some C => exact ⟨C, rfl⟩
      obtain ⟨C, rfl⟩ := hz
      have e3 : ((some C).map (fun C => ((C, b, l, i) : ox))).bind (owx 32) = (ow 32 C).map (fun C => (C, b, l, i)) := by
        show owx 32 (C, b, l, i) = _
        unfold owx
        rfl
      rw [e3] at q3
      refine (ih (zk + 1) h3 (ow 32 C) (by omega) (by omega) q1 ((me_f (c := 14036) q2 g1 rfl rfl).trans hi) q3).imp (fun w h' hq => ⟨hq.1, hq.2.1, (q2.wide (fun c hc => ab_swr_ok (by decide) hc)).trans hq.2.2.1, ?_⟩)
      exact hq.2.2.2
theorem oR_len {o : ox} (hR : oR h (some o)) : mi_f h 14044 = 0 ∧ oRo h o := by
  rcases hR with ⟨a, -⟩ | ⟨o', a, b, c⟩
  · cases a
  · injection a with a
    subst a
    exact ⟨b, c⟩
theorem oR_no (hR : oR h none) : mi_f h 14044 = 1 := by
  rcases hR with ⟨-, a⟩ | ⟨o', a, -⟩
  · exact a
  · cases a
theorem me_bex {zc : Int} (hS : ab_Sh sx_sk h) (oc : mi_in zc) (i0 : 0 ≤ mi_f h 14036) (i1 : mi_f h 14036 ≤ 100000) (hR : oR h x) : me_E (d + 2) 219 0 [some (.inr (.inr 109)), some (.inl zc), none] [] h (fun w h' => w = none ∧ ab_Sh sx_sk h' ∧ ab_Fr wr_pr h h' ∧ oR h' (x.bind (ob zc))) := by
  -- from 98 on
  have f98 : ∀ (h1 : sm_H) (y : Option ox), ab_Sh sx_sk h1 → ab_Fr wr_pr h h1 → oR h1 y → y.map (fun o => ((o.1, 0, 0, o.2.2.2) : ox)) = x.bind (ob zc) → me_E (d + 2) 219 98 [some (.inr (.inr 109)), some (.inl zc), none] [] h1 (fun w h' => w = none ∧ ab_Sh sx_sk h' ∧ ab_Fr wr_pr h h' ∧ oR h' (x.bind (ob zc))) := by
    intro h1 y g1 g2 g3 g4
    refine (be98 g1 oc me_on g3).imp (fun w h' hq => ⟨hq.1, hq.2.1, g2.trans (hq.2.2.1.wide (fun c hc => ab_swr_ok (by decide) hc)), ?_⟩)
    rw [← g4]
    exact hq.2.2.2
  -- a blank is written
  have wr98 : ∀ (h1 : sm_H), h1 = h → (∀ o, x = some o → obw zc o = ow 32 o.1) → ∃ Q1, me_E (d + 1) 220 0 (mi_entry 2 [.inr (.inr 109), .inl ((32 : Int))]) [] h1 Q1 ∧ ∀ w h2, (∀ x, w = some x → mi_ok x) → Q1 w h2 → me_E (d + 2) 219 98 [some (.inr (.inr 109)), some (.inl zc), none] (mi_back w []) h2 (fun w h' => w = none ∧ ab_Sh sx_sk h' ∧ ab_Fr wr_pr h h' ∧ oR h' (x.bind (ob zc))) := by
    intro h1 e hx
    subst e
    refine ⟨_, me_wrx hS ⟨by decide, by decide⟩ hR, fun w h2 hw hq => ?_⟩
    obtain ⟨rfl, q1, q2, q3⟩ := hq
    refine f98 h2 _ q1 (q2.wide (fun c hc => ab_swr_ok (by decide) hc)) q3 ?_
    cases x with
    | none => rfl
    | some o =>
      show (owx 32 o).map _ = ob zc o
      unfold owx ob
      rw [hx o rfl]
      cases ow 32 o.1 with
      | none => rfl
      | some C => rfl
  -- nothing is written
  have no98 : (∀ o, x = some o → obw zc o = some o.1) → ∀ h1, ab_Sh sx_sk h1 → ab_Fr [] h h1 → me_E (d + 2) 219 98 [some (.inr (.inr 109)), some (.inl zc), none] [] h1 (fun w h' => w = none ∧ ab_Sh sx_sk h' ∧ ab_Fr wr_pr h h' ∧ oR h' (x.bind (ob zc))) := by
    intro hx h1 g1 g2
    have e := me_nil g2
    subst e
    refine f98 h1 x g1 ab_Fr.refl hR ?_
    cases x with
    | none => rfl
    | some o =>
      show _ = ob zc o
      unfold ob
      rw [hx o rfl]
      rfl
  -- from 54 on
  have f54 : (∀ o, x = some o → ¬ (o.1 ≠ [] ∧ o.2.2.1 ≠ 0)) → ∀ h1, ab_Sh sx_sk h1 → ab_Fr [] h h1 → me_E (d + 2) 219 54 [some (.inr (.inr 109)), some (.inl zc), none] [] h1 (fun w h' => w = none ∧ ab_Sh sx_sk h' ∧ ab_Fr wr_pr h h' ∧ oR h' (x.bind (ob zc))) := by
    intro hx h1 g1 g2
    have e := me_nil g2
    subst e
    refine mt_ybE g1 oc ?_ ?_ ?_
    · intro b c
      refine no98 (fun o ho => ?_)
      subst ho
      obtain ⟨-, c1, -⟩ := oR_len hR
      have e0 : o.1 = [] := List.length_eq_zero_iff.mp (by omega)
      unfold obw
      rw [if_neg (hx o rfl), if_neg (fun q => q.1 e0)]
    · intro b b2 c c2 h2 r1 r2
      have e := me_nil r2
      subst e
      refine wr98 _ rfl (fun o ho => ?_)
      subst ho
      obtain ⟨-, c1, -, c3, -⟩ := oR_len hR
      have e0 : o.1 ≠ [] := fun q => by rw [q] at c1; have : (([] : List Int).length : Int) = 0 := rfl; omega
      unfold obw
      rw [if_neg (hx o rfl), if_pos ⟨e0, Or.inl (by rw [← c3]; exact c2)⟩]
    · intro b b2 c c2
      refine ⟨by omega, fun h2 r1 r2 => ?_⟩
      have e := me_nil r2
      subst e
      refine ⟨_, me_wyx r1 (mi_inT _), fun w h3 hw hq => ?_⟩
      obtain ⟨rfl, z, rfl, oz, hz⟩ := hq
      have hol : ∀ o, x = some o → o.1 ≠ [] ∧ olc o.1 = mi_a h3 170 (mi_f h3 14037 - 1).toNat ∧ o.2.1 = 0 := fun o ho => by
        subst ho
        obtain ⟨-, c1, c2', c3, -⟩ := oR_len hR
        have e0 : o.1 ≠ [] := fun q => by rw [q] at c1; have : (([] : List Int).length : Int) = 0 := rfl; omega
        refine ⟨e0, ?_, by rw [← c3]; exact c2⟩
        unfold olc
        rw [List.getLast?_eq_getElem?, c2' (o.1.length - 1) (by omega), show (mi_f h3 14037 - 1).toNat = o.1.length - 1 by omega]
        rfl
      refine mt_ybF r1 oc oz ?_ ?_
      · intro c3
        refine no98 (fun o ho => ?_)
        obtain ⟨k1, k2, k3⟩ := hol o ho
        unfold obw
        rw [if_neg (hx o ho), if_neg (fun q => by
          rcases q.2 with q | q
          · exact q k3
          · rw [k2] at q
            exact (hz.mpr q.1) c3)]
      · intro c3 h4 s1 s2
        have e := me_nil s2
        subst e
        refine ⟨_, me_wyx s1 oc, fun w h5 hw5 hq => ?_⟩
        obtain ⟨rfl, z2, rfl, oz2, hz2⟩ := hq
        refine mt_ybG s1 oc oz2 ?_ ?_
        · intro c4
          refine no98 (fun o ho => ?_)
          obtain ⟨k1, k2, k3⟩ := hol o ho
          unfold obw
          rw [if_neg (hx o ho), if_neg (fun q => by
            rcases q.2 with q | q
            · exact q k3
            · exact (hz2.mpr q.2) c4)]
        · intro c4 h6 t1 t2
          have e := me_nil t2
          subst e
          refine wr98 _ rfl (fun o ho => ?_)
          obtain ⟨k1, k2, k3⟩ := hol o ho
          unfold obw
          rw [if_neg (hx o ho), if_pos ⟨k1, Or.inr ⟨by rw [k2]; exact hz.mp c3, hz2.mp c4⟩⟩]
  refine mt_ybA hS oc ?_ ?_ ?_
  · intro b c
    refine f54 (fun o ho q => ?_)
    subst ho
    obtain ⟨-, c1, -⟩ := oR_len hR
    exact q.1 (List.length_eq_zero_iff.mp (by omega))
  · intro b b2 c c2
    refine f54 (fun o ho q => ?_)
    subst ho
    obtain ⟨-, -, -, -, c4, -⟩ := oR_len hR
    exact q.2 (by rw [← c4]; exact c2)
  · intro b b2 c c2 h1 g1 g2
    have e := me_nil g2
    subst e
    refine ⟨_, me_wrx g1 ⟨by decide, by decide⟩ hR, fun w h2 hw hq => ?_⟩
    obtain ⟨rfl, q1, q2, q3⟩ := hq
    refine mt_ybB q1 oc ?_
    intro h3 r1 r2
    have e := me_nil r2
    subst e
    have f36 : mi_f h3 14036 = mi_f h1 14036 := me_f (c := 14036) q2 g1 rfl rfl
    have em : (2 * mi_f h1 14036 - 0).toNat = (2 * mi_f h1 14036).toNat := by rw [Int.sub_zero]
    have key : ∀ (z : Option (List Int)) (b l : Int), oR h3 (z.map (fun C => (C, b, l, mi_f h1 14036))) → (z.bind (owl (List.replicate (2 * mi_f h1 14036).toNat 32))).map (fun C => ((C, 0, 0, mi_f h1 14036) : ox)) = x.bind (ob zc) → me_E (d + 2) 219 22 [some (.inr (.inr 109)), some (.inl zc), some (.inl 0)] [] h3 (fun w h' => w = none ∧ ab_Sh sx_sk h' ∧ ab_Fr wr_pr h1 h' ∧ oR h' (x.bind (ob zc))) := by
      intro z b l hz he
      refine (be22 (i := mi_f h1 14036) (b := b) (l := l) oc i0 i1 (2 * mi_f h1 14036).toNat 0 h3 z (by omega) (by decide) r1 f36 hz).imp (fun w h' hq => ⟨hq.1, hq.2.1, (q2.wide (fun c hc => ab_swr_ok (by decide) hc)).trans hq.2.2.1, ?_⟩)
      rw [← he]
      exact hq.2.2.2
    cases x with
    | none => exact key none 0 0 q3 rfl
    | some o =>
      obtain ⟨-, c1, -, -, c4, c5⟩ := oR_len hR
      have e0 : o.1 ≠ [] := fun q => by rw [q] at c1; have : (([] : List Int).length : Int) = 0 := rfl; omega
      have e3 : (some o).bind (owx 10) = (ow 10 o.1).map (fun C => (C, o.2.1, o.2.2.1, mi_f h1 14036)) := by
        show owx 10 o = _
        unfold owx
        rw [c5]
      rw [e3] at q3
      refine key (ow 10 o.1) o.2.1 o.2.2.1 q3 ?_
      show _ = ob zc o
      unfold ob obw
      rw [if_pos ⟨e0, by rw [← c4]; exact c2⟩, c5]
theorem me_lyx {zs : Int} (hS : ab_Sh sx_sk h) (os : mi_in zs) (i0 : 0 ≤ mi_f h 14036) (i1 : mi_f h 14036 ≤ 100000) (hR : oR h x) : me_E d 222 0 [some (.inr (.inr 109)), some (.inl zs)] [] h (fun w h' => w = none ∧ ab_Sh sx_sk h' ∧ ab_Fr [(14036, 14037), (14045, 14047)] h h' ∧ oR h' (x.map (oly zs)) ∧ 0 ≤ mi_f h' 14036 ∧ mi_f h' 14036 ≤ mi_f h 14036 + 1) := by
  have b45 := me_fb (c := 14045) hS rfl
  have b46 := me_fb (c := 14046) hS rfl
  -- indent
  have s42 : ∀ (h1 : sm_H) (vb vl : Int), ab_Sh sx_sk h1 → ab_Fr [(14045, 14047)] h h1 → mi_f h1 14045 = vb → mi_f h1 14046 = vl → (∀ o, x = some o → vb = (if zs = 4 then 1 else o.2.1) ∧ vl = (if zs = 5 then 1 else o.2.2.1)) → me_E d 222 42 [some (.inr (.inr 109)), some (.inl zs)] [] h1 (fun w h' => w = none ∧ ab_Sh sx_sk h' ∧ ab_Fr [(14036, 14037), (14045, 14047)] h h' ∧ oR h' (x.map (oly zs)) ∧ 0 ≤ mi_f h' 14036 ∧ mi_f h' 14036 ≤ mi_f h 14036 + 1) := by
    intro h1 vb vl g1 g2 e1 e2 hx
    have f36 : mi_f h1 14036 = mi_f h 14036 := me_f (c := 14036) g2 hS rfl rfl
    have fin : ∀ (h2 : sm_H) (v : Int), ab_Sh sx_sk h2 → mi_f h2 14036 = v → ab_Fr [(14036, 14037)] h1 h2 → (∀ o, x = some o → v = if zs = 6 then o.2.2.2 + 1 else if zs = 7 ∧ 0 < o.2.2.2 then o.2.2.2 - 1 else o.2.2.2) → 0 ≤ v → v ≤ mi_f h 14036 + 1 → (none : Option mi_V) = none ∧ ab_Sh sx_sk h2 ∧ ab_Fr [(14036, 14037), (14045, 14047)] h h2 ∧ oR h2 (x.map (oly zs)) ∧ 0 ≤ mi_f h2 14036 ∧ mi_f h2 14036 ≤ mi_f h 14036 + 1 := by
      intro h2 v r1 r2 r3 hv v0 v1
      have F : ab_Fr [(14036, 14037), (14045, 14047)] h h2 := (g2.wide (fun c hc => ab_swr_ok (by decide) hc)).trans (r3.wide (fun c hc => ab_swr_ok (by decide) hc))
      refine ⟨rfl, r1, F, ?_, by omega, by omega⟩
      rcases hR with ⟨a, b⟩ | ⟨o, a, b, c1, c2, c3, c4, c5⟩
      · exact Or.inl ⟨by rw [a]; rfl, (me_f (c := 14044) F hS rfl rfl).trans b⟩
      · obtain ⟨k1, k2⟩ := hx o a
        refine Or.inr ⟨oly zs o, by rw [a]; rfl, (me_f (c := 14044) F hS rfl rfl).trans b, (me_f (c := 14037) F hS rfl rfl).trans c1, fun k hk => by rw [me_a (k := 170) F hS rfl rfl]; exact c2 k hk, ?_, ?_, ?_⟩
        · rw [me_f (c := 14045) r3 g1 rfl rfl, e1, k1]
          rfl
        · rw [me_f (c := 14046) r3 g1 rfl rfl, e2, k2]
          rfl
        · rw [r2, hv o a]
          rfl
    have ho : ∀ o, x = some o → o.2.2.2 = mi_f h 14036 := fun o a => by
      subst a
      exact (oR_len hR).2.2.2.2.2.symm
    refine mt_ylC g1 os ?_ ?_ ?_ ?_
    · intro c1 c2 h2 r1 r2 r3
      exact fin h2 _ r1 r2 r3 (fun o a => by rw [if_neg c1, if_neg (fun q => c2 q.1), ho o a, f36]) (by omega) (by omega)
    · intro b c1 c2 c3 h2 r1 r2 r3
      exact fin h2 _ r1 r2 r3 (fun o a => by rw [if_neg c1, if_neg (fun q => by have := ho o a; omega), ho o a, f36]) (by omega) (by omega)
    · intro b c1 c2 c3
      refine ⟨by omega, fun h2 r1 r2 r3 => fin h2 _ r1 r2 r3 (fun o a => ?_) (by omega) (by omega)⟩
      rw [if_neg c1, if_pos ⟨c2, by have := ho o a; omega⟩, ho o a, f36]
    · intro b c1
      refine ⟨by omega, fun h2 r1 r2 r3 => fin h2 _ r1 r2 r3 (fun o a => ?_) (by omega) (by omega)⟩
      rw [if_pos c1, ho o a, f36]
  -- lines
  have s21 : ∀ (h1 : sm_H) (vb : Int), ab_Sh sx_sk h1 → ab_Fr [(14045, 14046)] h h1 → mi_f h1 14045 = vb → (∀ o, x = some o → vb = (if zs = 4 then 1 else o.2.1)) → me_E d 222 21 [some (.inr (.inr 109)), some (.inl zs)] [] h1 (fun w h' => w = none ∧ ab_Sh sx_sk h' ∧ ab_Fr [(14036, 14037), (14045, 14047)] h h' ∧ oR h' (x.map (oly zs)) ∧ 0 ≤ mi_f h' 14036 ∧ mi_f h' 14036 ≤ mi_f h 14036 + 1) := by
    intro h1 vb g1 g2 e1 hx
    have f46 : mi_f h1 14046 = mi_f h 14046 := me_f (c := 14046) g2 hS rfl rfl
    have ho : ∀ o, x = some o → o.2.2.1 = mi_f h 14046 := fun o a => by
      subst a
      exact (oR_len hR).2.2.2.2.1.symm
    have go : ∀ (h2 : sm_H) (v : Int), ab_Sh sx_sk h2 → mi_f h2 14046 = v → ab_Fr [(14046, 14047)] h1 h2 → (∀ o, x = some o → v = if zs = 5 then 1 else o.2.2.1) → me_E d 222 42 [some (.inr (.inr 109)), some (.inl zs)] [] h2 (fun w h' => w = none ∧ ab_Sh sx_sk h' ∧ ab_Fr [(14036, 14037), (14045, 14047)] h h' ∧ oR h' (x.map (oly zs)) ∧ 0 ≤ mi_f h' 14036 ∧ mi_f h' 14036 ≤ mi_f h 14036 + 1) := fun h2 v r1 r2 r3 hv => s42 h2 vb v r1 ((g2.wide (fun c hc => ab_swr_ok (by decide) hc)).trans (r3.wide (fun c hc => ab_swr_ok (by decide) hc))) ((me_f (c := 14045) r3 g1 rfl rfl).trans e1) r2 (fun o a => ⟨hx o a, hv o a⟩)
    refine mt_ylB g1 os ?_ ?_ ?_
    · intro b c h2 r1 r2 r3
      refine go h2 1 r1 r2 r3 (fun o a => ?_)
      by_cases q : zs = 5
      · rw [if_pos q]
      · rw [if_neg q, ho o a]
        omega
    · intro b c c2 h2 r1 r2 r3
      exact go h2 0 r1 r2 r3 (fun o a => by rw [if_neg c2, ho o a]; omega)
    · intro b c c2 h2 r1 r2 r3
      exact go h2 1 r1 r2 r3 (fun o a => by rw [if_pos c2])
  have ho : ∀ o, x = some o → o.2.1 = mi_f h 14045 := fun o a => by
    subst a
    exact (oR_len hR).2.2.2.1.symm
  refine mt_ylA hS os ?_ ?_ ?_
  · intro b c h2 r1 r2 r3
    refine s21 h2 1 r1 r3 r2 (fun o a => ?_)
    by_cases q : zs = 4
    · rw [if_pos q]
    · rw [if_neg q, ho o a]
      omega
  · intro b c c2 h2 r1 r2 r3
    exact s21 h2 0 r1 r3 r2 (fun o a => by rw [if_neg c2, ho o a]; omega)
  · intro b c c2 h2 r1 r2 r3
    exact s21 h2 1 r1 r3 r2 (fun o a => by rw [if_pos c2])
end OUT
/-! the reference's letters, digits, shown, exactly -/
def ltf : Nat → Int → List Int
  | 0, _ => []
  | n + 1, v => if 0 < v then (v % 32 + 96) :: ltf n (v / 32) else []
def lts (v : Int) : List Int := ltf 7 v
def dgf (n : Int) : Nat → Int → List Int
  | 0, _ => []
  | k + 1, e => if 0 < e then (48 + n / e % 10) :: dgf n k (e / 10) else []
def dgu (n : Int) : Int := if 999 < n then 1000 else if 99 < n then 100 else if 9 < n then 10 else 1
def dgs (n : Int) : List Int := dgf n 5 (dgu n)
/-- the characters of a token: the literals, the sort, what, the value -/
def tkw (L : Nat → Int) (s w v : Int) : List Int := if s = 8 then (if 0 < L w.toNat then lts (L w.toNat) else [-(L w.toNat)]) else if s = 2 then lts v else dgs ((v - w + 10000) % 10000)
/-- a leaf is printed -/
def oev (L : Nat → Int) (s w v : Int) (o : ox) : Option ox := if s = 1 ∨ s = 2 ∨ s = 8 then otk (tkw L s w v) o else some (oly s o)
theorem lg_and31 {x : Int64} (h : 0 ≤ x.toInt) : ((x &&& (Int64.ofNat 31)).toInt32.toInt) = x.toInt % 32 := by
  have toN : ∀ {a : Int64}, 0 ≤ a.toInt → (a.toBitVec.toNat : Int) = a.toInt := fun {a} h0 => by
    have e2 : a.toBitVec.toInt = a.toInt := rfl
    have e3 := BitVec.toInt_eq_toNat_cond a.toBitVec
    have e4 := a.toBitVec.isLt
    split at e3 <;> omega
  have n1 := toN h
  have e31 : (Int64.ofNat 31).toBitVec.toNat = 31 := by decide
  have main : (x &&& (Int64.ofNat 31)).toBitVec.toNat = x.toBitVec.toNat % 32 := by
    rw [Int64.toBitVec_and, BitVec.toNat_and, e31]
    exact Nat.and_two_pow_sub_one_eq_mod _ 5
  have hz : (x &&& (Int64.ofNat 31)).toInt = x.toInt % 32 := by
    show (x &&& (Int64.ofNat 31)).toBitVec.toInt = _
    rw [BitVec.toInt_eq_toNat_of_lt (by rw [main]; omega), main]
    omega
  rw [Int64.toInt_toInt32, hz]
  exact Int.bmod_eq_of_le (by omega) (by omega)
theorem i32_add {a b : Int} (h0 : -1000000 ≤ a ∧ a ≤ 1000000) (h1 : -1000000 ≤ b ∧ b ≤ 1000000) : (Int32.ofInt a + Int32.ofInt b).toInt = a + b := by
  rw [← Int32.ofInt_add, mi_ti ⟨by omega, by omega⟩]
theorem sh_divg {z w : Int} (h0 : 0 ≤ z) (h1 : z ≤ 1000000) (w0 : 0 < w) (w1 : w ≤ 1000000) : (Int32.ofInt z / Int32.ofInt w).toInt = z / w := by
  have b1 : 0 ≤ z / w := Int.ediv_nonneg h0 (by omega)
  have b2 : z / w ≤ z := Int.ediv_le_self _ h0
  rw [Int32.toInt_div, mi_ti ⟨by omega, by omega⟩, mi_ti ⟨by omega, by omega⟩, Int.tdiv_eq_ediv_of_nonneg h0]
  exact Int.bmod_eq_of_le (by omega) (by omega)
theorem sh_modg {z : Int} (h0 : 0 ≤ z) (h1 : z ≤ 1000000) : (Int32.ofInt z - Int32.ofInt z / Int32.ofInt ((10 : Int)) * Int32.ofInt ((10 : Int))).toInt = z % 10 := by
  have e10 : (Int32.ofInt ((10 : Int))).toInt = 10 := rfl
  have ez : (Int32.ofInt z).toInt = z := mi_ti ⟨by omega, by omega⟩
  have ed := sh_divg (w := 10) h0 h1 (by decide) (by decide)
  have em : (Int32.ofInt z / Int32.ofInt ((10 : Int)) * Int32.ofInt ((10 : Int))).toInt = z / 10 * 10 := by
    rw [Int32.toInt_mul, ed, e10]
    exact Int.bmod_eq_of_le (by omega) (by omega)
  rw [Int32.toInt_sub, ez, em]
  rw [Int.bmod_eq_of_le (by omega) (by omega)]
  omega
theorem ltf_head {n : Nat} {v : Int} (h : 0 < v) : (ltf (n + 1) v).headD 0 = v % 32 + 96 := by
  unfold ltf
  rw [if_pos h]
  rfl
theorem obind {W : List Int} {c : Int} {x : Option ox} : (x.bind (owx c)).bind (owlx W) = x.bind (owlx (c :: W)) := by
  cases x with
  | none => rfl
  | some o =>
    show (owx c o).bind (owlx W) = owlx (c :: W) o
    unfold owx owlx
    show Option.bind (Option.map _ (ow c o.1)) _ = Option.map _ ((ow c o.1).bind (owl W))
    cases ow c o.1 with
    | none => rfl
    | some C => rfl
theorem onil {x : Option ox} : x.bind (owlx []) = x := by
  cases x with
  | none => rfl
  | some o => rfl
section SHX
variable {h : sm_H} {d : Nat} {x : Option ox}
theorem me_l2Cx {zw : Int64} : ∀ (n : Nat) (zv : Int64) (h : sm_H) (x : Option ox), zv.toInt < 32 ^ n → ab_Sh sx_sk h → oR h x → me_E (d + 1) 218 15 [some (.inr (.inr 109)), some (.inr (.inl zw)), none, some (.inr (.inl zv)), none] [] h (fun w h' => w = none ∧ ab_Sh sx_sk h' ∧ ab_Fr wr_pr h h' ∧ oR h' (x.bind (owlx (ltf n zv.toInt)))) := by
  intro n
  induction n with
  | zero =>
    intro zv h x hv hS hR
    have e1 : (32 : Int) ^ 0 = 1 := rfl
    refine mt_l2C hS ?_ ?_
    · intro c h1 g1 g2
      have e := me_nil g2
      subst e
      exact ⟨rfl, g1, ab_Fr.refl, by rw [show ltf 0 zv.toInt = [] from rfl, onil]; exact hR⟩
    · intro c
      have := lg_pos c
      omega
  | succ n ih =>
    intro zv h x hv hS hR
    refine mt_l2C hS ?_ ?_
    · intro c h1 g1 g2
      have e := me_nil g2
      subst e
      have c0 : ¬ 0 < zv.toInt := fun q => by
        have : (lg_cmp zv (Int64.ofNat 0)).toInt = 1 := by
          unfold lg_cmp
          rw [if_pos (by rw [gt_iff_lt, Int64.lt_iff_toInt_lt]; exact q)]
          rfl
        omega
      refine ⟨rfl, g1, ab_Fr.refl, ?_⟩
      unfold ltf
      rw [if_neg c0, onil]
      exact hR
    · intro c h1 g1 g2
      have e := me_nil g2
      subst e
      have hp := lg_pos c
      have em : zv.toInt % 32 < 32 := Int.emod_lt_of_pos _ (by decide)
      have em0 : 0 ≤ zv.toInt % 32 := Int.emod_nonneg _ (by decide)
      rw [lg_and31 (by omega), i32_add ⟨by omega, by omega⟩ ⟨by omega, by omega⟩]
      refine ⟨_, me_wrx g1 ⟨by omega, by omega⟩ hR, ?_⟩
      intro w h2 hw hq
      obtain ⟨rfl, q1, q2, q3⟩ := hq
      refine mt_l2D q1 ?_
      intro h3 r1 r2
      have e := me_nil r2
      subst e
      refine (ih _ h3 _ ?_ q1 q3).imp (fun w h' hq => ⟨hq.1, hq.2.1, (q2.wide (fun c hc => ab_swr_ok (by decide) hc)).trans hq.2.2.1, ?_⟩)
      · rw [lg_shr5]
        have : (32 : Int) ^ (n + 1) = 32 ^ n * 32 := Int.pow_succ _ _
        omega
      · have := hq.2.2.2
        rw [lg_shr5, obind] at this
        have el : ltf (n + 1) zv.toInt = (zv.toInt % 32 + 96) :: ltf n (zv.toInt / 32) := by
          rw [ltf, if_pos hp]
        rw [el]
        exact this
theorem me_letx {zw : Int64} (hS : ab_Sh sx_sk h) (i0 : 0 ≤ mi_f h 14036) (i1 : mi_f h 14036 ≤ 100000) (w0 : 0 < zw.toInt) (w1 : zw.toInt < 1073741824) (hR : oR h x) : me_E (d + 3) 218 0 [some (.inr (.inr 109)), some (.inr (.inl zw)), none, none, none] [] h (fun w h' => w = none ∧ ab_Sh sx_sk h' ∧ ab_Fr wr_pr h h' ∧ oR h' (x.bind (otk (lts zw.toInt)))) := by
  refine mt_l2A (d := d + 2) hS ?_
  intro h1 g1 g2
  have e := me_nil g2
  subst e
  have em : zw.toInt % 32 < 32 := Int.emod_lt_of_pos _ (by decide)
  have em0 : 0 ≤ zw.toInt % 32 := Int.emod_nonneg _ (by decide)
  rw [lg_and31 (by omega), i32_add ⟨by omega, by omega⟩ ⟨by omega, by omega⟩]
  refine ⟨_, me_bex g1 ⟨by omega, by omega⟩ i0 i1 hR, ?_⟩
  intro w h2 hw hq
  obtain ⟨rfl, q1, q2, q3⟩ := hq
  refine mt_l2B q1 ?_
  intro h3 r1 r2
  have e := me_nil r2
  subst e
  have e7 : (32 : Int) ^ 7 = 34359738368 := by decide
  refine (me_l2Cx 7 zw h3 _ (by omega) q1 q3).imp (fun w h' hq => ⟨hq.1, hq.2.1, q2.trans hq.2.2.1, ?_⟩)
  have := hq.2.2.2
  have eo : (x.bind (ob (zw.toInt % 32 + 96))).bind (owlx (ltf 7 zw.toInt)) = x.bind (otk (lts zw.toInt)) := by
    cases x with
    | none => rfl
    | some o =>
      show (ob (zw.toInt % 32 + 96) o).bind _ = otk (lts zw.toInt) o
      unfold otk lts
      rw [ltf_head (n := 6) w0]
  rw [eo] at this
  exact this
theorem me_shEx {zu zn zd : Int} {zv : Int64} (ou : mi_in zu) (n0 : 0 ≤ zn) (n1 : zn ≤ 9999) (od : mi_in zd) : ∀ (k : Nat) (ze : Int) (h : sm_H) (x : Option ox), 0 ≤ ze → ze ≤ 1000 → ze < 10 ^ k → ab_Sh sx_sk h → oR h x → me_E (d + 1) 217 176 [some (.inr (.inr 109)), some (.inl zu), some (.inr (.inl zv)), none, some (.inl zn), some (.inl zd), some (.inl ze)] [] h (fun w h' => w = none ∧ ab_Sh sx_sk h' ∧ ab_Fr wr_pr h h' ∧ oR h' (x.bind (owlx (dgf zn k ze)))) := by
  have on : mi_in zn := ⟨by omega, by omega⟩
  intro k
  induction k with
  | zero =>
    intro ze h x e0 e1 e2 hS hR
    have e1' : (10 : Int) ^ 0 = 1 := rfl
    refine mt_shE hS ou on od ⟨by omega, by omega⟩ ?_ (by intros; exfalso; omega)
    intro c h1 g1 g2
    have e := me_nil g2
    subst e
    exact ⟨rfl, g1, ab_Fr.refl, by rw [show dgf zn 0 ze = [] from rfl, onil]; exact hR⟩
  | succ k ih =>
    intro ze h x e0 e1 e2 hS hR
    refine mt_shE hS ou on od ⟨by omega, by omega⟩ ?_ ?_
    · intro c h1 g1 g2
      have e := me_nil g2
      subst e
      refine ⟨rfl, g1, ab_Fr.refl, ?_⟩
      rw [dgf, if_neg (by omega), onil]
      exact hR
    · intro c
      refine ⟨by omega, fun h1 g1 g2 => ?_⟩
      have e := me_nil g2
      subst e
      have b1 : 0 ≤ zn / ze := Int.ediv_nonneg n0 (by omega)
      have b2 : zn / ze ≤ zn := Int.ediv_le_self _ n0
      rw [sh_divg n0 (by omega) c (by omega), sh_modg b1 (by omega), i32_add ⟨by omega, by omega⟩ ⟨by omega, by omega⟩]
      refine ⟨_, me_wrx g1 ⟨by omega, by omega⟩ hR, ?_⟩
      intro w h2 hw hq
      obtain ⟨rfl, q1, q2, q3⟩ := hq
      refine mt_shF q1 ou on od ⟨by omega, by omega⟩ ?_
      intro h3 r1 r2
      have e := me_nil r2
      subst e
      rw [sh_div ze (by omega) (by omega)]
      have ep : (10 : Int) ^ (k + 1) = 10 ^ k * 10 := Int.pow_succ _ _
      refine (ih (ze / 10) h3 _ (by omega) (by omega) (by omega) q1 q3).imp (fun w h' hq => ⟨hq.1, hq.2.1, (q2.wide (fun c hc => ab_swr_ok (by decide) hc)).trans hq.2.2.1, ?_⟩)
      have := hq.2.2.2
      rw [obind] at this
      rw [dgf, if_pos c]
      exact this
theorem me_numx {zu zn : Int} {zv : Int64} (ou : mi_in zu) (n0 : 0 ≤ zn) (n1 : zn ≤ 9999) (hS : ab_Sh sx_sk h) (i0 : 0 ≤ mi_f h 14036) (i1 : mi_f h 14036 ≤ 100000) (hR : oR h x) : me_E (d + 3) 217 119 [some (.inr (.inr 109)), some (.inl zu), some (.inr (.inl zv)), none, some (.inl zn), none, none] [] h (fun w h' => w = none ∧ ab_Sh sx_sk h' ∧ ab_Fr wr_pr h h' ∧ oR h' (x.bind (otk (dgs zn)))) := by
  have on : mi_in zn := ⟨by omega, by omega⟩
  have go : ∀ (zd : Int), zd = dgu zn → (zd = 1 ∨ zd = 10 ∨ zd = 100 ∨ zd = 1000) → zn < 10 * zd → ∀ h1, ab_Sh sx_sk h1 → ab_Fr [] h h1 → me_E (d + 3) 217 160 [some (.inr (.inr 109)), some (.inl zu), some (.inr (.inl zv)), none, some (.inl zn), some (.inl zd), none] [] h1 (fun w h' => w = none ∧ ab_Sh sx_sk h' ∧ ab_Fr wr_pr h h' ∧ oR h' (x.bind (otk (dgs zn)))) := by
    intro zd hd hd4 hlt h1 g1 g2
    have e := me_nil g2
    subst e
    have od : mi_in zd := ⟨by omega, by omega⟩
    have b1 : 0 ≤ zn / zd := Int.ediv_nonneg n0 (by omega)
    have b2 : zn / zd < 10 := Int.ediv_lt_of_lt_mul (by omega) hlt
    refine mt_shC (d := d + 2) g1 ou on od ?_
    refine ⟨by omega, fun h2 r1 r2 => ?_⟩
    have e := me_nil r2
    subst e
    rw [sh_divg n0 (by omega) (by omega) (by omega), i32_add ⟨by omega, by omega⟩ ⟨by omega, by omega⟩]
    refine ⟨_, me_bex r1 ⟨by omega, by omega⟩ i0 i1 hR, ?_⟩
    intro w h3 hw hq
    obtain ⟨rfl, q1, q2, q3⟩ := hq
    refine mt_shD q1 ou on od ?_
    intro h4 s1 s2
    have e := me_nil s2
    subst e
    have e5 : (10 : Int) ^ 5 = 100000 := by decide
    refine (me_shEx ou n0 n1 od 5 zd h4 _ (by omega) (by omega) (by omega) q1 q3).imp (fun w h' hq => ⟨hq.1, hq.2.1, q2.trans hq.2.2.1, ?_⟩)
    have := hq.2.2.2
    have eo : (x.bind (ob (48 + zn / zd))).bind (owlx (dgf zn 5 zd)) = x.bind (otk (dgs zn)) := by
      have ehd : (dgs zn).headD 0 = 48 + zn / zd := by
        unfold dgs
        rw [← hd, dgf, if_pos (by omega)]
        show 48 + zn / zd % 10 = _
        rw [Int.emod_eq_of_lt b1 b2]
      cases x with
      | none => rfl
      | some o =>
        show (ob (48 + zn / zd) o).bind _ = otk (dgs zn) o
        unfold otk
        rw [ehd]
        unfold dgs
        rw [← hd]
    rw [eo] at this
    exact this
  refine mt_shB (d := d + 2) hS ou on ?_ ?_ ?_ ?_
  · intro c1 c2 c3
    exact go 1 (by unfold dgu; rw [if_neg (by omega), if_neg (by omega), if_neg (by omega)]) (by decide) (by omega)
  · intro c1 c2 c3
    exact go 10 (by unfold dgu; rw [if_neg (by omega), if_neg (by omega), if_pos (by omega)]) (by decide) (by omega)
  · intro c1 c2
    exact go 100 (by unfold dgu; rw [if_neg (by omega), if_pos (by omega)]) (by decide) (by omega)
  · intro c1
    exact go 1000 (by unfold dgu; rw [if_pos (by omega)]) (by decide) (by omega)
theorem sh_val {v : Int64} {w : Int} (v0 : 0 ≤ v.toInt) (v1 : v.toInt ≤ 9999) (w0 : 0 ≤ w) (w1 : w ≤ 9) : (((v - ((Int32.ofInt w).toInt64)) + (Int64.ofNat 10000)) - ((v - ((Int32.ofInt w).toInt64)) + (Int64.ofNat 10000)) / (Int64.ofNat 10000) * (Int64.ofNat 10000)).toInt32.toInt = (v.toInt - w + 10000) % 10000 := by
  have ew : ((Int32.ofInt w).toInt64).toInt = w := by rw [Int32.toInt_toInt64, mi_ti ⟨by omega, by omega⟩]
  have e4 : (Int64.ofNat 10000).toInt = 10000 := rfl
  have e1 : (v - ((Int32.ofInt w).toInt64)).toInt = v.toInt - w := by
    rw [Int64.toInt_sub, ew]
    exact Int.bmod_eq_of_le (by omega) (by omega)
  have e2 : ((v - ((Int32.ofInt w).toInt64)) + (Int64.ofNat 10000)).toInt = v.toInt - w + 10000 := by
    rw [Int64.toInt_add, e1, e4]
    exact Int.bmod_eq_of_le (by omega) (by omega)
  have e3 : (((v - ((Int32.ofInt w).toInt64)) + (Int64.ofNat 10000)) / (Int64.ofNat 10000)).toInt = (v.toInt - w + 10000) / 10000 := by
    rw [Int64.toInt_div, e2, e4, Int.tdiv_eq_ediv_of_nonneg (by omega)]
    exact Int.bmod_eq_of_le (by omega) (by omega)
  have e5 : (((v - ((Int32.ofInt w).toInt64)) + (Int64.ofNat 10000)) / (Int64.ofNat 10000) * (Int64.ofNat 10000)).toInt = (v.toInt - w + 10000) / 10000 * 10000 := by
    rw [Int64.toInt_mul, e3, e4]
    exact Int.bmod_eq_of_le (by omega) (by omega)
  have e6 : (((v - ((Int32.ofInt w).toInt64)) + (Int64.ofNat 10000)) - ((v - ((Int32.ofInt w).toInt64)) + (Int64.ofNat 10000)) / (Int64.ofNat 10000) * (Int64.ofNat 10000)).toInt = v.toInt - w + 10000 - (v.toInt - w + 10000) / 10000 * 10000 := by
    rw [Int64.toInt_sub, e2, e5]
    exact Int.bmod_eq_of_le (by omega) (by omega)
  rw [Int64.toInt_toInt32, e6, Int.bmod_eq_of_le (by omega) (by omega)]
  omega
theorem me_shownx {zu : Int} (hS : ab_Sh sx_sk h) (hu0 : 0 ≤ zu) (hu1 : zu < 60) (hs : mi_a h 119 zu.toNat = 1 ∨ mi_a h 119 zu.toNat = 2 ∨ mi_a h 119 zu.toNat = 8) (hl : mi_a h 119 zu.toNat = 8 → (0 ≤ mi_a h 120 zu.toNat ∧ mi_a h 120 zu.toNat < 20) ∧ 0 ≤ (mx_b h 118 (mi_a h 120 zu.toNat).toNat).toInt ∧ (mx_b h 118 (mi_a h 120 zu.toNat).toNat).toInt < 1073741824 ∧ 0 ≤ mi_a h 117 (mi_a h 120 zu.toNat).toNat) (hn : mi_a h 119 zu.toNat ≠ 8 → 0 ≤ mi_f h 14033 ∧ mi_f h 14033 < 100) (h1v : mi_a h 119 zu.toNat = 1 → 0 ≤ (mx_b h 162 (mi_f h 14033).toNat).toInt ∧ (mx_b h 162 (mi_f h 14033).toNat).toInt ≤ 9999 ∧ 0 ≤ mi_a h 120 zu.toNat ∧ mi_a h 120 zu.toNat ≤ 9) (h2v : mi_a h 119 zu.toNat = 2 → 0 < (mx_b h 162 (mi_f h 14033).toNat).toInt ∧ (mx_b h 162 (mi_f h 14033).toNat).toInt < 1073741824) (i0 : 0 ≤ mi_f h 14036) (i1 : mi_f h 14036 ≤ 100000) (hR : oR h x) : me_E (d + 4) 217 0 [some (.inr (.inr 109)), some (.inl zu), none, none, none, none, none] [] h (fun w h' => w = none ∧ ab_Sh sx_sk h' ∧ ab_Fr wr_sh h h' ∧ mi_f h' 14033 = (if mi_a h 119 zu.toNat = 8 then mi_f h 14033 else mi_f h 14033 + 1) ∧ oR h' (x.bind (otk (tkw (tq_L h) (mi_a h 119 zu.toNat) (mi_a h 120 zu.toNat) (mx_b h 162 (mi_f h 14033).toNat).toInt)))) := by
  have ou : mi_in zu := ⟨by omega, by omega⟩
  have hnx : mi_a h 119 zu.toNat ≠ 8 → (Int32.ofInt (mi_f h 14033) + Int32.ofInt ((1 : Int))).toInt = mi_f h 14033 + 1 := fun e => by
    have := hn e
    rw [← Int32.ofInt_add, mi_ti ⟨by omega, by omega⟩]
  refine mt_shA (d := d + 3) hS ou ?_ ?_ ?_ ?_
  · intro b c1 c2
    have hn' := hn c1
    have s1 : mi_a h 119 zu.toNat = 1 := by omega
    obtain ⟨v0, v1, w0, w1⟩ := h1v s1
    refine ⟨by omega, fun h1 g1 g2 g3 => ?_⟩
    rw [sh_val v0 v1 w0 w1]
    refine (me_numx (d := d + 1) ou (Int.emod_nonneg _ (by decide)) (by have := Int.emod_lt_of_pos ((mx_b h 162 (mi_f h 14033).toNat).toInt - mi_a h 120 zu.toNat + 10000) (show (0 : Int) < 10000 by decide); omega) g1 (by rw [me_f (c := 14036) g3 hS rfl rfl]; exact i0) (by rw [me_f (c := 14036) g3 hS rfl rfl]; exact i1) (oR_fr hR g3 hS rfl)).imp (fun w h' hq => ⟨hq.1, hq.2.1, (g3.wide (fun c hc => ab_swr_ok (by decide) hc)).trans (hq.2.2.1.wide (fun c hc => ab_swr_ok (by decide) hc)), ?_, ?_⟩)
    · rw [if_neg c1, me_f (c := 14033) hq.2.2.1 g1 rfl rfl, g2, hnx c1]
    · unfold tkw
      rw [if_neg c1, if_neg c2]
      exact hq.2.2.2
  · intro b c1 c2
    have hn' := hn c1
    obtain ⟨v0, v1⟩ := h2v c2
    refine ⟨by omega, fun h1 g1 g2 g3 => ⟨_, me_letx (d := d) g1 (by rw [me_f (c := 14036) g3 hS rfl rfl]; exact i0) (by rw [me_f (c := 14036) g3 hS rfl rfl]; exact i1) v0 v1 (oR_fr hR g3 hS rfl), ?_⟩⟩
    intro w h2 hw hq
    obtain ⟨rfl, q1, q2, q3⟩ := hq
    refine mt_shJ (d := d + 3) q1 ou ?_
    intro h3 r1 r2
    have e := me_nil r2
    subst e
    refine ⟨rfl, r1, (g3.wide (fun c hc => ab_swr_ok (by decide) hc)).trans (q2.wide (fun c hc => ab_swr_ok (by decide) hc)), ?_, ?_⟩
    · rw [if_neg c1, me_f (c := 14033) q2 g1 rfl rfl, g2, hnx c1]
    · unfold tkw
      rw [if_neg c1, if_pos c2]
      exact q3
  · intro c1 c2
    obtain ⟨hl1, hl2, hl3, hl4⟩ := hl c1
    have k0 : (mx_b h 118 (mi_a h 120 zu.toNat).toNat).toInt = 0 := tq_z.mp (lg_cmp0 c2)
    have eL : tq_L h (mi_a h 120 zu.toNat).toNat = -(mi_a h 117 (mi_a h 120 zu.toNat).toNat) := by
      unfold tq_L
      rw [if_pos k0]
    refine ⟨by omega, fun h1 g1 g2 => ?_⟩
    have e := me_nil g2
    subst e
    refine ⟨_, me_bex (d := d + 1) g1 (mi_inT _) i0 i1 hR, ?_⟩
    intro w h2 hw hq
    obtain ⟨rfl, q1, q2, q3⟩ := hq
    refine mt_shG (d := d + 3) q1 ou (mi_inT _) ?_
    refine ⟨by omega, fun h3 r1 r2 => ?_⟩
    have e := me_nil r2
    subst e
    have f117 : mi_a h3 117 (mi_a h1 120 zu.toNat).toNat = mi_a h1 117 (mi_a h1 120 zu.toNat).toNat := me_a (k := 117) q2 g1 rfl rfl
    rw [f117]
    refine ⟨_, me_wrx r1 (mi_inT _) q3, ?_⟩
    intro w h4 hw4 hq4
    obtain ⟨rfl, t1, t2, t3⟩ := hq4
    refine mt_shH (d := d + 3) t1 ou (mi_inT _) ?_
    intro h5 u1 u2
    have e := me_nil u2
    subst e
    refine ⟨rfl, u1, (q2.wide (fun c hc => ab_swr_ok (by decide) hc)).trans (t2.wide (fun c hc => ab_swr_ok (by decide) hc)), ?_, ?_⟩
    · rw [if_pos c1, me_f (c := 14033) t2 r1 rfl rfl, me_f (c := 14033) q2 g1 rfl rfl]
    · unfold tkw
      rw [if_pos c1, eL, if_neg (by omega), Int.neg_neg]
      have eo : (x.bind (ob (mi_a h1 117 (mi_a h1 120 zu.toNat).toNat))).bind (owx (mi_a h1 117 (mi_a h1 120 zu.toNat).toNat)) = x.bind (otk [mi_a h1 117 (mi_a h1 120 zu.toNat).toNat]) := by
        rw [← onil (x := (x.bind _).bind _), obind]
        cases x with
        | none => rfl
        | some o => rfl
      rw [eo] at t3
      exact t3
  · intro c1 c2
    obtain ⟨hl1, hl2, hl3, hl4⟩ := hl c1
    have k0 : (mx_b h 118 (mi_a h 120 zu.toNat).toNat).toInt ≠ 0 := fun q => gx_cmpn c2 (tq_z.mpr q)
    have eL : tq_L h (mi_a h 120 zu.toNat).toNat = (mx_b h 118 (mi_a h 120 zu.toNat).toNat).toInt := by
      unfold tq_L
      rw [if_neg k0]
    refine ⟨by omega, fun h1 g1 g2 => ?_⟩
    have e := me_nil g2
    subst e
    refine ⟨_, me_letx (d := d) g1 i0 i1 (by omega) hl3 hR, ?_⟩
    intro w h2 hw hq
    obtain ⟨rfl, q1, q2, q3⟩ := hq
    refine mt_shI (d := d + 3) q1 ou (mi_inT _) ?_
    intro h3 r1 r2
    have e := me_nil r2
    subst e
    refine ⟨rfl, r1, q2.wide (fun c hc => ab_swr_ok (by decide) hc), ?_, ?_⟩
    · rw [if_pos c1, me_f (c := 14033) q2 g1 rfl rfl]
    · unfold tkw
      rw [if_pos c1, eL, if_pos (by omega)]
      exact q3
end SHX
/-! the reference's walk that prints: what each turn does to what is printed -/
/-- a value, in the order in which the nodes were made -/
def yv (h : sm_H) (c : Int) : Int := (mx_b h 162 c.toNat).toInt
/-- what is known of a leaf -/
def yl (h : sm_H) (u c : Int) : Prop := (mi_a h 119 u.toNat = 1 → 0 ≤ yv h c ∧ yv h c ≤ 9999 ∧ 0 ≤ mi_a h 120 u.toNat ∧ mi_a h 120 u.toNat ≤ 9) ∧ (mi_a h 119 u.toNat = 2 → 0 < yv h c ∧ yv h c < 1073741824) ∧ (mi_a h 119 u.toNat = 8 → 0 ≤ (mx_b h 118 (mi_a h 120 u.toNat).toNat).toInt ∧ (mx_b h 118 (mi_a h 120 u.toNat).toNat).toInt < 1073741824 ∧ 0 ≤ mi_a h 117 (mi_a h 120 u.toNat).toNat) ∧ (mi_a h 119 u.toNat = 1 ∨ mi_a h 119 u.toNat = 2 → 0 ≤ c ∧ c < 100)
/-- what is printed of a unit by itself -/
def ye (h : sm_H) (u c : Int) (o : ox) : Option ox := if mi_a h 119 u.toNat = 9 ∨ mi_a h 119 u.toNat = 10 then some o else oev (tq_L h) (mi_a h 119 u.toNat) (mi_a h 120 u.toNat) (yv h c) o
def yo (h : sm_H) (o : ox) : Prop := ab_Sh sx_sk h ∧ mi_f h 14028 = 2 ∧ oR h (some o) ∧ 0 ≤ mi_f h 14036 ∧ mi_f h 14036 ≤ 99999 ∧ 0 ≤ mi_f h 14029 ∧ 0 ≤ mi_f h 14032 ∧ mi_f h 14032 ≤ 12 ∧ 0 ≤ mi_f h 14033 ∧ mi_f h 14033 ≤ 100
def yQ (h : sm_H) (y : Option ox) (w : Option mi_V) (h' : sm_H) : Prop := w = none ∧ ab_Sh sx_sk h' ∧ oR h' y ∧ 0 ≤ mi_f h' 14036 ∧ mi_f h' 14036 ≤ mi_f h 14036 + 1
section PRO
variable {h : sm_H} {d : Nat} {zu : Int} {o : ox}
theorem me_comeso {zk : Int} {zv : Int64} (hS : ab_Sh sx_sk h) (hm : mi_f h 14028 = 2) (ok : mi_in zk) (n0 : 0 ≤ mi_f h 14033) (n1 : mi_f h 14033 ≤ 1000) : me_E d 208 0 [some (.inr (.inr 109)), some (.inl zk), some (.inr (.inl zv)), none] [] h (fun w h' => (∃ z, w = some (.inl z)) ∧ ab_Sh sx_sk h' ∧ ab_Fr [(14033, 14034)] h h' ∧ mi_f h' 14033 = mi_f h 14033 + 1) := by
  refine mt_comes hS ok (by intros; exfalso; omega) (by intros; exfalso; omega) ?_
  intro b1 b2 c
  exact ⟨by omega, fun h1 g1 g2 g3 => ⟨⟨_, rfl⟩, g1, g3, g2⟩⟩
theorem yQ_fr {wr : List (Nat × Nat)} {h' : sm_H} {y : Option ox} (hR : oR h y) (i0 : 0 ≤ mi_f h 14036) (g1 : ab_Sh sx_sk h') (hF : ab_Fr wr h h') (hS : ab_Sh sx_sk h) (hw : (ab_in wr 14036 || ab_in wr 14037 || ab_in wr 14044 || ab_in wr 14045 || ab_in wr 14046 || ab_in wr 21760) = false) : yQ h y none h' := by
  have w1 : ab_in wr 14036 = false := by
    simp only [Bool.or_eq_false_iff] at hw
    exact hw.1.1.1.1.1
  have e := me_f (c := 14036) hF hS rfl w1
  exact ⟨rfl, g1, oR_fr hR hF hS hw, by omega, by omega⟩
/-- passed is put to no again -/
theorem oR_0 {h' : sm_H} {wr : List (Nat × Nat)} (hR : oR h (some o)) (h44 : mi_f h' 14044 = 0) (hF : ab_Fr wr h h') (hS : ab_Sh sx_sk h) (hw : (ab_in wr 14036 || ab_in wr 14037 || ab_in wr 14045 || ab_in wr 14046 || ab_in wr 21760) = false) : oR h' (some o) := by
  simp only [Bool.or_eq_false_iff] at hw
  obtain ⟨⟨⟨⟨w1, w2⟩, w4⟩, w5⟩, w6⟩ := hw
  obtain ⟨-, c1, c2, c3, c4, c5⟩ := oR_len hR
  exact Or.inr ⟨o, rfl, h44, (me_f (c := 14037) hF hS rfl w2).trans c1, fun k hk => by rw [me_a (k := 170) hF hS rfl w6]; exact c2 k hk, (me_f (c := 14045) hF hS rfl w4).trans c3, (me_f (c := 14046) hF hS rfl w5).trans c4, (me_f (c := 14036) hF hS rfl w1).trans c5⟩
theorem me_entero {zr : Int} (hi : yo h o) (ht : mi_f h 14029 ≤ 2990) (r0 : 0 ≤ zr) (r1 : zr < 10) : me_E (d + 2) 207 0 [some (.inr (.inr 109)), some (.inl zr)] [] h (yQ h (some o)) := by
  obtain ⟨hS, hm, hR, i0, i1, t0, u0, u1, n0, n1⟩ := hi
  have ok : mi_in zr := ⟨by omega, by omega⟩
  have go : ∀ h1, ab_Sh sx_sk h1 → mi_f h1 14035 = (Int32.ofInt (mi_f h 14035) - Int32.ofInt ((1 : Int))).toInt → mi_f h1 14044 = ((0 : Int)) → ab_Fr [(14035, 14036), (14044, 14045)] h h1 → ∃ Q1, me_E (d + 1) 208 0 (mi_entry 4 [.inr (.inr 109), .inl ((1 : Int)), .inr (.inl ((Int32.ofInt zr).toInt64))]) [] h1 Q1 ∧ ∀ w h2, (∀ x, w = some x → mi_ok x) → Q1 w h2 → me_E (d + 2) 207 51 [some (.inr (.inr 109)), some (.inl zr)] (mi_back w []) h2 (yQ h (some o)) := by
    intro h1 g1 g2 g3 g4
    refine ⟨_, me_comeso g1 ((me_f (c := 14028) g4 hS rfl rfl).trans hm) ⟨by decide, by decide⟩ (by rw [me_f (c := 14033) g4 hS rfl rfl]; exact n0) (by rw [me_f (c := 14033) g4 hS rfl rfl]; omega), fun w h2 hw hq => ?_⟩
    obtain ⟨⟨z, rfl⟩, q1, q2, q3⟩ := hq
    have e29 : mi_f h2 14029 = mi_f h 14029 := (me_f (c := 14029) q2 g1 rfl rfl).trans (me_f (c := 14029) g4 hS rfl rfl)
    have e32 : mi_f h2 14032 = mi_f h 14032 := (me_f (c := 14032) q2 g1 rfl rfl).trans (me_f (c := 14032) g4 hS rfl rfl)
    have e36 : mi_f h2 14036 = mi_f h 14036 := (me_f (c := 14036) q2 g1 rfl rfl).trans (me_f (c := 14036) g4 hS rfl rfl)
    refine mt_enB q1 ok (hw _ rfl) ?_
    intro b1 b2
    refine ⟨by omega, fun h3 s1 s2 s3 s4 s5 s6 s7 s8 => ?_⟩
    have R1 : oR h1 (some o) := oR_0 hR g3 g4 hS rfl
    have R2 : oR h2 (some o) := oR_fr R1 q2 g1 rfl
    have := yQ_fr R2 (by omega) s1 s8 q1 rfl
    exact ⟨this.1, this.2.1, this.2.2.1, this.2.2.2.1, by have := this.2.2.2.2; omega⟩
  refine mt_enA hS ok ?_ ?_ (by intros; exfalso; omega)
  · intro b c
    exact go
  · intro b b2 c c2
    exact go
theorem me_singleo (hi : yo h o) (hu : wk_us h zu) (hl : yl h zu (mi_f h 14033)) (ht : mi_f h 14029 ≤ 2990) : me_E (d + 5) 213 0 [some (.inr (.inr 109)), some (.inl zu)] [] h (yQ h (ye h zu (mi_f h 14033) o)) := by
  obtain ⟨hS, hm, hR, i0, i1, t0, u0, u1, n0, n1⟩ := id hi
  have hu0 := hu.1
  have hu1 := hu.2.1
  have ok : mi_in zu := ⟨by omega, by omega⟩
  -- a token
  have tk : (mi_a h 119 zu.toNat = 1 ∨ mi_a h 119 zu.toNat = 2 ∨ mi_a h 119 zu.toNat = 8) → ∀ h1, ab_Sh sx_sk h1 → ab_Fr [] h h1 → ∃ Q1, me_E (d + 4) 217 0 (mi_entry 7 [.inr (.inr 109), .inl zu]) [] h1 Q1 ∧ ∀ w h2, (∀ x, w = some x → mi_ok x) → Q1 w h2 → me_E (d + 5) 213 129 [some (.inr (.inr 109)), some (.inl zu)] (mi_back w []) h2 (yQ h (ye h zu (mi_f h 14033) o)) := by
    intro hs h1 g1 g2
    have e := me_nil g2
    subst e
    refine ⟨_, me_shownx (d := d) g1 hu0 hu1 hs (fun q => ⟨hu.2.2.2 q, hl.2.2.1 q⟩) (fun q => hl.2.2.2 (by omega)) hl.1 hl.2.1 i0 (by omega) hR, fun w h2 hw hq => ?_⟩
    obtain ⟨rfl, q1, q2, -, q3⟩ := hq
    refine mt_sr129 q1 ok ?_
    intro h3 r1 r2
    have e := me_nil r2
    subst e
    have e36 : mi_f h3 14036 = mi_f h1 14036 := me_f (c := 14036) q2 g1 rfl rfl
    refine ⟨rfl, r1, ?_, by omega, by omega⟩
    unfold ye
    rw [if_neg (by omega)]
    unfold oev
    rw [if_pos hs]
    exact q3
  -- no token
  have ly : mi_a h 119 zu.toNat ≠ 1 → mi_a h 119 zu.toNat ≠ 2 → mi_a h 119 zu.toNat ≠ 8 → mi_a h 119 zu.toNat ≠ 9 → mi_a h 119 zu.toNat ≠ 10 → ∀ h1, ab_Sh sx_sk h1 → ab_Fr [] h h1 → ∃ Q1, me_E (d + 4) 222 0 (mi_entry 2 [.inr (.inr 109), .inl (mi_a h 119 zu.toNat)]) [] h1 Q1 ∧ ∀ w h2, (∀ x, w = some x → mi_ok x) → Q1 w h2 → me_E (d + 5) 213 142 [some (.inr (.inr 109)), some (.inl zu)] (mi_back w []) h2 (yQ h (ye h zu (mi_f h 14033) o)) := by
    intro s1 s2 s8 s9 s10 h1 g1 g2
    have e := me_nil g2
    subst e
    refine ⟨_, me_lyx (d := d + 4) g1 (mi_inT _) i0 (by omega) hR, fun w h2 hw hq => ?_⟩
    obtain ⟨rfl, q1, q2, q3, q4, q5⟩ := hq
    refine mt_sr142 q1 ok ?_
    intro h3 r1 r2
    have e := me_nil r2
    subst e
    refine ⟨rfl, r1, ?_, q4, q5⟩
    unfold ye
    rw [if_neg (by omega)]
    unfold oev
    rw [if_neg (by omega)]
    exact q3
  have l16 : (mi_a h 119 zu.toNat < 1 ∨ 10 < mi_a h 119 zu.toNat) ∨ (3 ≤ mi_a h 119 zu.toNat ∧ mi_a h 119 zu.toNat ≤ 7) → _ := fun q => ly (by omega) (by omega) (by omega) (by omega) (by omega)
  refine mt_sg hS ok ?_ (by intros; exfalso; omega) (by intros; exfalso; omega) ?_ (by intros; exfalso; omega) (by intros; exfalso; omega) ?_ ?_ ?_ ?_ ?_ ?_ (by intros; exfalso; omega) (by intros; exfalso; omega) ?_ ?_ ?_
  · intro b c1 c2 c3
    exact ⟨by omega, tk (by omega)⟩
  · intro b c1 c2 c3
    exact ⟨by omega, tk (by omega)⟩
  · intro c1
    exact ⟨by omega, ly (by omega) (by omega) (by omega) (by omega) (by omega)⟩
  · intro c1
    exact ⟨by omega, ly (by omega) (by omega) (by omega) (by omega) (by omega)⟩
  · intro c1
    exact ⟨by omega, ly (by omega) (by omega) (by omega) (by omega) (by omega)⟩
  · intro c1
    exact ⟨by omega, ly (by omega) (by omega) (by omega) (by omega) (by omega)⟩
  · intro c1
    exact ⟨by omega, ly (by omega) (by omega) (by omega) (by omega) (by omega)⟩
  · intro b c1 c2 c3
    exact ⟨by omega, tk (by omega)⟩
  · intro c1
    obtain ⟨x1, x2, x3, x4⟩ := hu.2.2.1 (by omega)
    refine ⟨by omega, fun h1 g1 g2 => ?_⟩
    have e := me_nil g2
    subst e
    refine ⟨_, me_entero (d := d + 2) hi ht x3 x4, fun w h2 hw hq => ?_⟩
    have e := hq.1
    subst e
    refine mt_sr75 hq.2.1 ok ?_
    intro h3 r1 r2
    have e := me_nil r2
    subst e
    unfold ye
    rw [if_pos (by omega)]
    exact hq
  · intro b c1
    refine ⟨by omega, fun h1 g1 g2 a5 a6 a7 g3 => ?_⟩
    unfold ye
    rw [if_pos (by omega)]
    exact yQ_fr hR i0 g1 g3 hS rfl
  · intro c1
    exact ⟨by omega, ly (by omega) (by omega) (by omega) (by omega) (by omega)⟩
/-- what is looked at does not change -/
theorem ye_fr {wr : List (Nat × Nat)} {h' : sm_H} {u c : Int} {y : ox} (hF : ab_Fr wr h h') (hS : ab_Sh sx_sk h) (w1 : ab_in wr 15232 = false) (w2 : ab_in wr 15360 = false) (w3 : ab_in wr 20736 = false) (w4 : ab_in wr 14976 = false) (w5 : ab_in wr 15104 = false) : ye h' u c y = ye h u c y ∧ (yl h u c → yl h' u c) := by
  have e1 : ∀ i, mi_a h' 119 i = mi_a h 119 i := fun i => me_a (k := 119) hF hS rfl w1
  have e2 : ∀ i, mi_a h' 120 i = mi_a h 120 i := fun i => me_a (k := 120) hF hS rfl w2
  have e3 : ∀ i, mx_b h' 162 i = mx_b h 162 i := fun i => me_b (k := 162) hF hS rfl w3
  have e4 : ∀ i, mi_a h' 117 i = mi_a h 117 i := fun i => me_a (k := 117) hF hS rfl w4
  have e5 : ∀ i, mx_b h' 118 i = mx_b h 118 i := fun i => me_b (k := 118) hF hS rfl w5
  have eL : tq_L h' = tq_L h := funext fun k => by unfold tq_L; rw [e5, e4]
  refine ⟨?_, fun q => ?_⟩
  · unfold ye yv
    rw [e1, e2, e3, eL]
  · unfold yl yv at q ⊢
    rw [e1, e2, e3, e5, e4]
    exact q
theorem me_againo {za : Int} (hi : yo h o) (hu : wk_us h zu) (oa : mi_in za) (hl : 0 < za → yl h zu (mi_f h 14033)) (ht : mi_f h 14029 ≤ 2985) : me_E (d + 6) 227 0 [some (.inr (.inr 109)), some (.inl zu), some (.inl za), none] [] h (yQ h (if 0 < za then ye h zu (mi_f h 14033) o else some o)) := by
  obtain ⟨hS, hm, hR, i0, i1, t0, u0, u1, n0, n1⟩ := id hi
  have ok : mi_in zu := ⟨by have := hu.1; omega, by have := hu.2.1; omega⟩
  have oa0 := oa.1
  have oa1 := oa.2
  refine mt_agA hS ok oa ?_ ?_ (by intros; exfalso; omega)
  · intro b c1 c2 h1 g1 g2
    rw [if_neg (by omega)]
    exact yQ_fr hR i0 g1 g2 hS rfl
  · intro b b2 c1 c2
    refine ⟨by omega, fun h1 g1 g2 a5 a6 a7 g3 => ?_⟩
    rw [if_pos c2]
    have hg : wk_gc (mi_a h) (mi_a h1) := wk_gc_fr g3 hS rfl
    have hu1' : wk_us h1 zu := by
      unfold wk_us
      rw [hg 119 (by decide), hg 120 (by decide), hg 115 (by decide)]
      exact hu
    obtain ⟨k1, k2⟩ := ye_fr (u := zu) (c := mi_f h 14033) (y := o) g3 hS rfl rfl rfl rfl rfl
    have f33 : mi_f h1 14033 = mi_f h 14033 := me_f (c := 14033) g3 hS rfl rfl
    have f36 : mi_f h1 14036 = mi_f h 14036 := me_f (c := 14036) g3 hS rfl rfl
    have f32 : mi_f h1 14032 = mi_f h 14032 := me_f (c := 14032) g3 hS rfl rfl
    refine ⟨_, me_singleo (d := d) (o := o) ⟨g1, (me_f (c := 14028) g3 hS rfl rfl).trans hm, oR_fr hR g3 hS rfl, by omega, by omega, by omega, by omega, by omega, by omega, by omega⟩ hu1' (by rw [f33]; exact k2 (hl c2)) (by omega), fun w h2 hw hq => ?_⟩
    rw [f33, k1] at hq
    have e := hq.1
    subst e
    refine mt_agC hq.2.1 ok oa ⟨by decide, by decide⟩ ?_
    intro h3 r1 r2
    have e := me_nil r2
    subst e
    exact ⟨rfl, r1, hq.2.2.1, hq.2.2.2.1, by have := hq.2.2.2.2; omega⟩
theorem lg_i32 {x : Int64} (h0 : 0 ≤ x.toInt) (h1 : x.toInt ≤ 1000000) : x.toInt32.toInt = x.toInt := by
  rw [Int64.toInt_toInt32]
  exact Int.bmod_eq_of_le (by omega) (by omega)
/-- what is printed of a unit -/
def yu (h : sm_H) (u c : Int) (o : ox) : Option ox := if mi_a h 122 u.toNat = 1 then some o else if mi_a h 122 u.toNat = 2 then (if 0 < yv h c then ye h u (c + 1) o else some o) else ye h u c o
theorem me_unito {zo : Int} (hi : yo h o) (hu : wk_us h zu) (ht : mi_f h 14029 ≤ 2985) (hz : zo = 0 ∨ zo = 1) (hp : zo = 1 → 0 ≤ mi_f h 14030 ∧ mi_f h 14030 < 64) (hv : (mi_a h 122 zu.toNat = 1 ∨ mi_a h 122 zu.toNat = 2) → (0 ≤ yv h (mi_f h 14033) ∧ yv h (mi_f h 14033) ≤ 1000000) ∧ mi_f h 14033 < 100) (hl1 : mi_a h 122 zu.toNat = 2 → 0 < yv h (mi_f h 14033) → yl h zu (mi_f h 14033 + 1)) (hl0 : mi_a h 122 zu.toNat ≠ 1 → mi_a h 122 zu.toNat ≠ 2 → yl h zu (mi_f h 14033)) : me_E (d + 6) 210 0 [some (.inr (.inr 109)), some (.inl zu), some (.inl zo), none, none] [] h (yQ h (yu h zu (mi_f h 14033) o)) := by
  obtain ⟨hS0, hm0, hR0, -, -, -, -, -, -, -⟩ := id hi
  have hu0 := hu.1
  have hu1 := hu.2.1
  have ok : mi_in zu := ⟨by omega, by omega⟩
  have oo : mi_in zo := ⟨by omega, by omega⟩
  -- from 24 on
  have go24 : ∀ h1, ab_Sh sx_sk h1 → ab_Fr [(14030, 14031), (21504, 21505)] h h1 → me_E (d + 6) 210 24 [some (.inr (.inr 109)), some (.inl zu), some (.inl zo), none, none] [] h1 (yQ h (yu h zu (mi_f h 14033) o)) := by
    intro h1 hS g2
    have hg : wk_gc (mi_a h) (mi_a h1) := wk_gc_fr g2 hS0 rfl
    have hus : wk_us h1 zu := by
      unfold wk_us
      rw [hg 119 (by decide), hg 120 (by decide), hg 115 (by decide)]
      exact hu
    have f33 : mi_f h1 14033 = mi_f h 14033 := me_f (c := 14033) g2 hS0 rfl rfl
    have f36 : mi_f h1 14036 = mi_f h 14036 := me_f (c := 14036) g2 hS0 rfl rfl
    have f32 : mi_f h1 14032 = mi_f h 14032 := me_f (c := 14032) g2 hS0 rfl rfl
    have f29 : mi_f h1 14029 = mi_f h 14029 := me_f (c := 14029) g2 hS0 rfl rfl
    have hm : mi_f h1 14028 = 2 := (me_f (c := 14028) g2 hS0 rfl rfl).trans hm0
    have hR : oR h1 (some o) := oR_fr hR0 g2 hS0 rfl
    obtain ⟨-, -, -, i0, i1, t0, u0, u1, n0, n1⟩ := id hi
    have e122 : mi_a h1 122 zu.toNat = mi_a h 122 zu.toNat := hg 122 (by decide) _
    have ev : mx_b h1 162 (mi_f h1 14033).toNat = mx_b h 162 (mi_f h 14033).toNat := by rw [f33]; exact me_b (k := 162) g2 hS0 rfl rfl
    have fin : ∀ {y : Option ox} {w : Option mi_V} {h' : sm_H}, yQ h1 y w h' → yQ h y w h' := fun q => ⟨q.1, q.2.1, q.2.2.1, q.2.2.2.1, by have := q.2.2.2.2; omega⟩
    refine mt_unB hS ok oo ?_ (by intros; exfalso; omega) ?_ (by intros; exfalso; omega) (by intros; exfalso; omega) (by intros; exfalso; omega) ?_ (by intros; exfalso; omega) (by intros; exfalso; omega)
    · intro c1 c2
      refine ⟨by omega, fun h2 r1 r2 => ?_⟩
      have e := me_nil r2
      subst e
      obtain ⟨k1, k2⟩ := ye_fr (u := zu) (c := mi_f h 14033) (y := o) g2 hS0 rfl rfl rfl rfl rfl
      refine ⟨_, me_singleo (d := d) (o := o) ⟨r1, hm, hR, by omega, by omega, by omega, by omega, by omega, by omega, by omega⟩ hus (by rw [f33]; exact k2 (hl0 (by rw [← e122]; exact c1) (by rw [← e122]; exact c2))) (by omega), fun w h3 hw hq => ?_⟩
      rw [f33, k1] at hq
      have e := hq.1
      subst e
      refine mt_unK hq.2.1 ok oo ?_
      intro h4 s1 s2
      have e := me_nil s2
      subst e
      unfold yu
      rw [if_neg (by rw [← e122]; exact c1), if_neg (by rw [← e122]; exact c2)]
      exact fin hq
    · intro b b2 c1 c2 c3 c4
      rw [e122] at c1 c2
      obtain ⟨⟨v0, v1⟩, n2⟩ := hv (Or.inr c2)
      refine ⟨by omega, fun h2 r1 r2 => ?_⟩
      have e := me_nil r2
      subst e
      rw [ev, lg_i32 v0 v1]
      have on : mi_in (mx_b h 162 (mi_f h 14033).toNat).toInt := ⟨by unfold yv at v0 v1; omega, by unfold yv at v0 v1; omega⟩
      refine mt_unH r1 ok oo on ?_
      intro h3 s1 s2
      have e := me_nil s2
      subst e
      refine ⟨_, me_comeso (d := d + 5) s1 hm ⟨by decide, by decide⟩ (by omega) (by omega), fun w h4 hw hq => ?_⟩
      obtain ⟨⟨z, rfl⟩, q1, q2, q3⟩ := hq
      have e29 : mi_f h4 14029 = mi_f h 14029 := (me_f (c := 14029) q2 s1 rfl rfl).trans f29
      have R4 : oR h4 (some o) := oR_fr hR q2 s1 rfl
      have e36 : mi_f h4 14036 = mi_f h 14036 := (me_f (c := 14036) q2 s1 rfl rfl).trans f36
      have e44 := (oR_len R4).1
      refine mt_unI q1 ok oo on (hw _ rfl) ?_ (by intros; exfalso; omega) ?_
      · intro b3 c5
        refine ⟨by omega, fun h5 t1 t2 t3 a5 a6 a7 t4 => ?_⟩
        unfold yu yv
        rw [if_neg c1, if_pos c2, if_neg (by omega)]
        have := yQ_fr R4 (by omega) t1 t4 q1 rfl
        exact ⟨this.1, this.2.1, this.2.2.1, this.2.2.2.1, by have := this.2.2.2.2; omega⟩
      · intro b3 b4 c5 c6
        refine ⟨by omega, fun h5 t1 t2 t3 a5 a6 a7 t4 => ?_⟩
        have F5 : ab_Fr [(14029, 14030), (14030, 14032), (14033, 14034), (21120, 21121), (21248, 21249), (21376, 21377), (21504, 21505)] h h5 := ((g2.wide (fun c hc => ab_swr_ok (by decide) hc)).trans (q2.wide (fun c hc => ab_swr_ok (by decide) hc))).trans (t4.wide (fun c hc => ab_swr_ok (by decide) hc))
        have hg5 : wk_gc (mi_a h) (mi_a h5) := wk_gc_fr F5 hS0 rfl
        have hus5 : wk_us h5 zu := by
          unfold wk_us
          rw [hg5 119 (by decide), hg5 120 (by decide), hg5 115 (by decide)]
          exact hu
        obtain ⟨k1, k2⟩ := ye_fr (u := zu) (c := mi_f h 14033 + 1) (y := o) F5 hS0 rfl rfl rfl rfl rfl
        have e33 : mi_f h5 14033 = mi_f h 14033 + 1 := by rw [me_f (c := 14033) t4 q1 rfl rfl, q3, f33]
        have g36 : mi_f h5 14036 = mi_f h 14036 := me_f (c := 14036) F5 hS0 rfl rfl
        have g32 : mi_f h5 14032 = mi_f h 14032 := me_f (c := 14032) F5 hS0 rfl rfl
        refine ⟨_, me_singleo (d := d) (o := o) ⟨t1, (me_f (c := 14028) F5 hS0 rfl rfl).trans hm0, oR_fr R4 t4 q1 rfl, by omega, by omega, by omega, by omega, by omega, by omega, by omega⟩ hus5 (by rw [e33]; exact k2 (hl1 c2 c5)) (by omega), fun w h6 hw6 hq => ?_⟩
        rw [e33, k1] at hq
        have e := hq.1
        subst e
        refine mt_unJ hq.2.1 ok oo on ?_
        intro h7 l1 l2
        have e := me_nil l2
        subst e
        unfold yu yv
        rw [if_neg c1, if_pos c2, if_pos c5]
        exact ⟨rfl, l1, hq.2.2.1, hq.2.2.2.1, by have := hq.2.2.2.2; omega⟩
    · intro b b2 c1 c3 c4
      rw [e122] at c1
      obtain ⟨⟨v0, v1⟩, n2⟩ := hv (Or.inl c1)
      refine ⟨by omega, fun h2 r1 r2 => ?_⟩
      have e := me_nil r2
      subst e
      rw [ev, lg_i32 v0 v1]
      have on : mi_in (mx_b h 162 (mi_f h 14033).toNat).toInt := ⟨by unfold yv at v0 v1; omega, by unfold yv at v0 v1; omega⟩
      refine mt_unD r1 ok oo on ?_
      intro h3 s1 s2
      have e := me_nil s2
      subst e
      refine ⟨_, me_comeso (d := d + 5) s1 hm ⟨by decide, by decide⟩ (by omega) (by omega), fun w h4 hw hq => ?_⟩
      obtain ⟨⟨z, rfl⟩, q1, q2, q3⟩ := hq
      have e29 : mi_f h4 14029 = mi_f h 14029 := (me_f (c := 14029) q2 s1 rfl rfl).trans f29
      have R4 : oR h4 (some o) := oR_fr hR q2 s1 rfl
      have e36 : mi_f h4 14036 = mi_f h 14036 := (me_f (c := 14036) q2 s1 rfl rfl).trans f36
      have e28 : mi_f h4 14028 = 2 := (me_f (c := 14028) q2 s1 rfl rfl).trans hm
      refine mt_unE q1 ok oo on (hw _ rfl) ?_ (by intros; exfalso; omega)
      intro b3 b4 c5
      refine ⟨by omega, fun h5 t1 t2 t3 a5 a6 a7 t4 => ?_⟩
      unfold yu
      rw [if_pos c1]
      have := yQ_fr R4 (by omega) t1 t4 q1 rfl
      exact ⟨this.1, this.2.1, this.2.2.1, this.2.2.2.1, by have := this.2.2.2.2; omega⟩
  refine mt_unA hS0 ok oo ?_ ?_
  · intro c h1 g1 g2
    exact go24 h1 g1 (g2.wide (fun c hc => by cases hc))
  · intro b b2 c
    have := hp (by omega)
    exact ⟨by omega, fun h1 g1 g2 a8 g3 => go24 h1 g1 g3⟩
end PRO
/-! the reference's walk that prints: choose; the replay's turns as the traces have them; what the leaves print -/
section PRC
variable {h : sm_H} {d : Nat} {zf : Int} {o : ox}
theorem me_chooseo {U : Int} (hi : yo h o) (hf0 : 0 ≤ zf) (hf1 : zf < 80) (hf : wk_fa (mi_a h) zf) (hC : wk_C (mi_a h) U) (hfi : ∀ j : Nat, (j : Int) < mi_a h 130 zf.toNat → mi_a h 126 (wk_alt (mi_a h) j (mi_a h 129 zf.toNat)).toNat < 0 ∨ mi_a h 126 (wk_alt (mi_a h) j (mi_a h 129 zf.toNat)).toNat < U) (hlen : ∀ j : Nat, (j : Int) < mi_a h 130 zf.toNat → ((wk_it (mi_a h) 61 (mi_a h 126 (wk_alt (mi_a h) j (mi_a h 129 zf.toNat)).toNat)).length : Int) + mi_f h 14029 + 1 ≤ 2999) (hv : 1 < mi_a h 130 zf.toNat → 0 ≤ yv h (mi_f h 14033) ∧ yv h (mi_f h 14033) < mi_a h 130 zf.toNat ∧ mi_f h 14033 < 100) : me_E (d + 6) 223 0 [some (.inr (.inr 109)), some (.inl zf), none, none, none, none] [] h (yQ h (some o)) := by
  obtain ⟨hS, hm, hR, i0, i1, t0, u0, u1, n0, n1⟩ := id hi
  have of : mi_in zf := ⟨by omega, by omega⟩
  have b130 := me_ab (k := 130) (i := zf.toNat) hS rfl (by decide) (by clear hlen hfi; omega)
  refine mt_chA hS of ?_ ?_ ?_ ?_ ?_
  · intro c1
    have h1c : (1 : Int) ≤ mi_a h 130 zf.toNat := hf.1
    have h0l : ((0 : Nat) : Int) < mi_a h 130 zf.toNat := by clear hlen hfi; omega
    have hl0 := hlen 0 h0l
    have ha0 := hf.2.2 0 h0l
    have hf0' := hfi 0 h0l
    refine ⟨by clear hlen hfi; omega, fun h1 g1 g2 => ?_⟩
    have e1 := me_nil g2
    subst e1
    refine (ch146 (U := U) g1 of ⟨by decide, by decide⟩ (fun v hv => by cases hv) hC ha0.1 ha0.2 hf0' t0 (by
      clear hlen hfi
      omega)).imp (fun w h' hq => ?_)
    obtain ⟨p1, p2, p3, p4, p5⟩ := hq
    subst p1
    exact yQ_fr hR i0 p2 p3 g1 rfl
  · intro b1 b2 c1 c2 c3 c4
    exact absurd hm c3
  · intro b1 b2 c1 c2 c3 c4
    exact absurd hm c3
  · intro b1 b2 c1 c2 c3
    obtain ⟨v0, v1, n2⟩ := hv c1
    refine ⟨by clear hlen hfi; omega, fun h1 g1 g2 => ?_⟩
    have e1 := me_nil g2
    subst e1
    have v0 : 0 ≤ (mx_b h1 162 (mi_f h1 14033).toNat).toInt := v0
    have v1 : (mx_b h1 162 (mi_f h1 14033).toNat).toInt < mi_a h1 130 zf.toNat := v1
    rw [lg_i32 v0 (by clear hlen hfi; omega)]
    obtain ⟨j, hj⟩ : ∃ j : Nat, (mx_b h1 162 (mi_f h1 14033).toNat).toInt = (j : Int) := ⟨_, (Int.toNat_of_nonneg v0).symm⟩
    rw [hj] at v0 v1 ⊢
    have oz : mi_in (j : Int) := ⟨by clear hlen hfi; omega, by clear hlen hfi; omega⟩
    refine mt_chD g1 of ⟨by decide, by decide⟩ (mi_inT _) oz ?_ (by intros; exfalso; clear hlen hfi; omega)
    intro c h2' r1 r2
    have e2 := me_nil r2
    subst e2
    refine mt_chD2 r1 of oz (mi_inT _) ?_
    intro h3 s1' s2
    have e3 := me_nil s2
    subst e3
    refine ⟨_, me_comeso (d := d + 5) s1' hm ⟨by decide, by decide⟩ n0 (by clear hlen hfi; omega), ?_⟩
    intro w h4 hw hq
    obtain ⟨⟨z, rfl⟩, q1, q2, q3⟩ := hq
    have n29 : mi_f h4 14029 = mi_f h3 14029 := me_f (c := 14029) q2 s1' rfl rfl
    have n36 : mi_f h4 14036 = mi_f h3 14036 := me_f (c := 14036) q2 s1' rfl rfl
    have R4 : oR h4 (some o) := oR_fr hR q2 s1' rfl
    have hlj := hlen j v1
    refine mt_chE q1 of oz (mi_inT _) (hw _ rfl) ?_
    intro b1
    refine ⟨by clear hlen hfi; omega, fun h5 t1 t2 t3 a5 a6 a7 t4 => ?_⟩
    have R5 : oR h5 (some o) := oR_fr R4 t4 q1 rfl
    have e36 : mi_f h5 14036 = mi_f h3 14036 := (me_f (c := 14036) t4 q1 rfl rfl).trans n36
    have F5 : ab_Fr wr_W1 h3 h5 := (q2.wide (fun c hc => ab_swr_ok (by decide) hc)).trans (t4.wide (fun c hc => ab_swr_ok (by decide) hc))
    have hg : wk_gc (mi_a h3) (mi_a h5) := wk_gc_fr F5 s1' rfl
    have hC5 : wk_C (mi_a h5) U := by
      refine ⟨hC.1, fun u u0 u1 => ?_⟩
      rw [hg 124 (by decide), hg 125 (by decide), hg 124 (by decide)]
      exact hC.2 u u0 u1
    have hf5 : wk_fa (mi_a h5) zf := by
      unfold wk_fa
      rw [hg 130 (by decide), hg 129 (by decide), wk_alt_g hg]
      refine ⟨hf.1, hf.2.1, fun j hj => ?_⟩
      rw [wk_alt_g hg]
      exact hf.2.2 j hj
    have ea : wk_alt (mi_a h5) j (mi_a h5 129 zf.toNat) = wk_alt (mi_a h3) j (mi_a h3 129 zf.toNat) := by rw [wk_alt_g hg, hg 129 (by decide)]
    have haj := hf.2.2 j v1
    have hfj := hfi j v1
    generalize hA : wk_alt (mi_a h3) j (mi_a h3 129 zf.toNat) = A at ea haj hfj hlj
    have key := ch127 (d := d) (Q := yQ h3 (some o)) t1 of hf0 hf1 hf5 (j := j) (by rw [hg 130 (by decide)]; exact v1) (fun zj ozj => by
      rw [ea]
      refine (ch146 (U := U) t1 of oz (fun v hv => by cases hv; exact ozj) hC5 haj.1 haj.2 (by rw [hg 126 (by decide)]; exact hfj) (by clear hlen hfi; omega) (by rw [wk_it_g hg, hg 126 (by decide)]; clear hlen hfi; omega)).imp (fun w h' hq => ?_)
      obtain ⟨p1, p2, p3, p4, p5⟩ := hq
      subst p1
      have := yQ_fr R5 (by clear hlen hfi; omega) p2 p3 t1 rfl
      exact ⟨this.1, this.2.1, this.2.2.1, this.2.2.2.1, by have := this.2.2.2.2; clear hlen hfi; omega⟩) (j + 1) 0 (by clear hlen hfi; omega) (Nat.zero_le _)
    rw [hg 129 (by decide)] at key
    exact key
  · intro b1 c1 c2
    exfalso; clear hlen hfi; omega
end PRC
section PFD
variable {g : wk_g} {V : Int → Int} {K V' : Nat → Int} {r r1 r2 : List wk_E} {s s1 : gm_S} {c c2 : Nat}
theorem dm_sg_pf {u : Int} (hc : gm_len s = (c : Int)) (h : dm_sg 0 g V u r s = some (r1, s1)) (h2 : wk_sg g K u r c = some (r2, c2)) : r1 = r2 ∧ gm_len s1 = (c2 : Int) := by
  unfold dm_sg at h
  unfold wk_sg wk_sS at h2
  by_cases c9 : g 119 u.toNat = 9
  · rw [if_pos c9] at h h2
    rw [if_pos c9] at h2
    split at h2
    · injection h2 with h2
      injection h2 with h3 h4
      unfold pm_en at h
      split at h
      · cases h
      · obtain ⟨t, k1, k2⟩ := Option.map_eq_some_iff.mp h
        injection k2 with k3 k4
        subst k3
        subst k4
        obtain ⟨A, -, -, a3, -⟩ := pv_c (by decide) k1
        have ld : gm_len (gm_d t) = gm_len t := gm_d_e.1
        exact ⟨h3, by omega⟩
    · cases h2
  · rw [if_neg c9] at h h2
    by_cases c10 : g 119 u.toNat = 10
    · rw [if_pos c10] at h
      rw [if_neg (by omega), if_neg (by omega), if_neg c9, if_pos c10] at h2
      injection h with h
      injection h with k3 k4
      injection h2 with h2
      injection h2 with h3 h4
      subst k4
      exact ⟨k3.symm.trans h3, by omega⟩
    · rw [if_neg c10] at h
      obtain ⟨t, k1, k2⟩ := Option.map_eq_some_iff.mp h
      injection k2 with k3 k4
      subst k3
      subst k4
      unfold dm_lf at k1
      by_cases c1 : g 119 u.toNat = 1
      · rw [if_pos c1] at k1 h2
        split at h2
        · injection h2 with h2
          injection h2 with h3 h4
          obtain ⟨A, -, -, a3, -⟩ := pv_c (by decide) k1
          exact ⟨h3, by omega⟩
        · cases h2
      · rw [if_neg c1] at k1 h2
        by_cases c22 : g 119 u.toNat = 2
        · rw [if_pos c22] at k1 h2
          split at h2
          · injection h2 with h2
            injection h2 with h3 h4
            obtain ⟨A, -, -, a3, -⟩ := pv_c (by decide) k1
            exact ⟨h3, by omega⟩
          · cases h2
        · rw [if_neg c22] at k1 h2
          rw [if_neg c9, if_neg c10] at h2
          injection k1 with k1
          subst k1
          injection h2 with h2
          injection h2 with h3 h4
          exact ⟨h3, by omega⟩
theorem dm_pf {e : wk_E} (hc : gm_len s = (c : Int)) (hV : V' c = V (gm_len s)) (h : dm_st g V 0 e r s = some (r1, s1)) (h2 : wk_pf g K V' (e :: r, c) = some (r2, c2)) : r1 = r2 ∧ gm_len s1 = (c2 : Int) := by
  unfold dm_st at h
  unfold wk_pf at h2
  dsimp only at h2
  by_cases c0 : e.1 = 0
  · rw [if_pos c0] at h h2
    have lo : gm_len (gm_op e.2.2 s) = gm_len s := gm_op_e.2
    generalize gm_op e.2.2 s = so at h lo
    rw [hV, ← lo] at h2
    have hc : gm_len so = (c : Int) := by omega
    unfold dm_u at h
    by_cases c1 : g 122 e.2.1.toNat = 1
    · rw [if_pos c1] at h h2
      split at h2
      · injection h2 with h2
        injection h2 with h3 h4
        obtain ⟨t, k1, k2⟩ := Option.map_eq_some_iff.mp h
        injection k2 with k3 k4
        subst k3
        subst k4
        obtain ⟨A, -, -, a3, -⟩ := pv_c (by decide) k1
        have ld : gm_len (gm_d t) = gm_len t := gm_d_e.1
        exact ⟨h3, by omega⟩
      · cases h2
    · rw [if_neg c1] at h h2
      by_cases c22 : g 122 e.2.1.toNat = 2
      · rw [if_pos c22] at h h2
        split at h2
        · obtain ⟨t, k1, k2⟩ := Option.bind_eq_some_iff.mp h
          obtain ⟨A, -, -, a3, -⟩ := pv_c (by decide) k1
          have ld : gm_len (gm_d t) = gm_len t := gm_d_e.1
          by_cases cv : 0 < V (gm_len so)
          · rw [if_pos cv] at k2 h2
            exact dm_sg_pf (c := c + 1) (by omega) k2 h2
          · rw [if_neg cv] at k2 h2
            injection k2 with k2
            injection k2 with k3 k4
            injection h2 with h2
            injection h2 with h3 h4
            subst k4
            exact ⟨k3.symm.trans h3, by omega⟩
        · cases h2
      · rw [if_neg c22] at h h2
        exact dm_sg_pf hc h h2
  · rw [if_neg c0] at h h2
    by_cases c1 : e.1 = 1
    · rw [if_pos c1] at h h2
      unfold dm_fo at h
      by_cases cf : 1 < g 130 e.2.1.toNat
      · rw [if_pos cf] at h h2
        rw [hV] at h2
        split at h2
        · injection h2 with h2
          injection h2 with h3 h4
          split at h
          · obtain ⟨t, k1, k2⟩ := Option.map_eq_some_iff.mp h
            injection k2 with k3 k4
            subst k3
            subst k4
            obtain ⟨A, -, -, a3, -⟩ := pv_c (by decide) k1
            have ld : gm_len (gm_d t) = gm_len t := gm_d_e.1
            exact ⟨h3, by omega⟩
          · cases h
        · cases h2
      · rw [if_neg cf] at h h2
        injection h with h
        injection h with k3 k4
        injection h2 with h2
        injection h2 with h3 h4
        subst k4
        exact ⟨k3.symm.trans h3, by omega⟩
    · rw [if_neg c1] at h h2
      by_cases c5 : e.1 = 5
      · rw [if_pos c5] at h h2
        unfold dm_ag at h
        by_cases ca : 0 < e.2.2
        · rw [if_pos ca] at h h2
          exact dm_sg_pf hc h h2
        · rw [if_neg ca] at h h2
          injection h with h
          injection h with k3 k4
          injection h2 with h2
          injection h2 with h3 h4
          subst k4
          exact ⟨k3.symm.trans h3, by omega⟩
      · rw [if_neg c5] at h h2
        injection h2 with h2
        injection h2 with h3 h4
        by_cases c22 : e.1 = 2
        · rw [if_pos c22] at h
          injection h with h
          injection h with k3 k4
          subst k4
          exact ⟨k3.symm.trans h3, by unfold gm_len; rw [gm_T_mk]; unfold gm_len at hc; omega⟩
        · rw [if_neg c22] at h
          by_cases c3 : e.1 = 3
          · rw [if_pos c3] at h
            injection h with h
            injection h with k3 k4
            subst k4
            exact ⟨k3.symm.trans h3, by unfold gm_len; rw [gm_mid_T]; unfold gm_len at hc; omega⟩
          · rw [if_neg c3] at h
            injection h with h
            injection h with k3 k4
            subst k4
            refine ⟨k3.symm.trans h3, ?_⟩
            unfold gm_tu
            cases hP : gm_P s with
            | nil =>
              dsimp only
              omega
            | cons p q =>
              unfold gm_len at hc ⊢
              dsimp only
              rw [gm_T_mk, gm_rot_len]
              omega
end PFD
/-- the leaves, one behind the other -/
def ofd (Lr : Nat → Int) (g : wk_g) : List (Int × Int) → Option ox → Option ox
  | [], x => x
  | p :: L, x => ofd Lr g L (x.bind (oev Lr (g 119 p.1.toNat) (g 120 p.1.toNat) p.2))
section OFD
variable {Lr : Nat → Int} {g : wk_g}
theorem ofd_app : ∀ (L M : List (Int × Int)) (x : Option ox), ofd Lr g (L ++ M) x = ofd Lr g M (ofd Lr g L x) := by
  intro L
  induction L with
  | nil => intro M x; rfl
  | cons p L ih => intro M x; exact ih M _
theorem ofd_none : ∀ (L : List (Int × Int)), ofd Lr g L none = none := by
  intro L
  induction L with
  | nil => rfl
  | cons p L ih => exact ih
end OFD
/-! the reference's walk that prints, exactly -/
section ZP
variable {d : Nat} {h0 : sm_H} {Y : wk_Y} {zh : Int}
/-- what is asked: the tree that is replayed, its values, the literals -/
def zp_G (Y : wk_Y) (h0 : sm_H) (N : Nat) (sN : gm_S) (LN : List (Int × Int)) : Prop := pe_to (dm_st (mi_a h0) (yv h0) 0) (dv (mi_a h0) (yv h0)) N (tr_0 (mi_a h0)) ([], sN) LN ∧ N < 40000 ∧ vo (yv h0) sN ∧ (∀ x ∈ gm_T sN, (x.1 % 10 = 2 → 0 ≤ x.2.1 ∧ x.2.1 ≤ 9999) ∧ (x.1 % 10 = 3 → 0 < x.2.1 ∧ x.2.1 < 1073741824)) ∧ (∀ u, 0 ≤ u → u < wk_u Y → px_W h0 u) ∧ (∀ u, 0 ≤ u → u < wk_u Y → mi_a h0 119 u.toNat = 8 → 0 ≤ (mx_b h0 118 (mi_a h0 120 u.toNat).toNat).toInt ∧ (mx_b h0 118 (mi_a h0 120 u.toNat).toNat).toInt < 1073741824 ∧ 0 ≤ mi_a h0 117 (mi_a h0 120 u.toNat).toNat)
def zp_f (h0 : sm_H) (L : List (Int × Int)) (x : Option ox) : Option ox := ofd (tq_L h0) (mi_a h0) L x
def zp_I (Y : wk_Y) (h0 : sm_H) (N : Nat) (sN : gm_S) (R : Option ox) (zt : Int) (h : sm_H) : Prop := wl_I Y h0 2 (tp_I h0) zt h ∧ ∃ (s : gm_S) (M : List (Int × Int)) (o : ox) (k : Nat), pe_to (dm_st (mi_a h0) (yv h0) 0) (dv (mi_a h0) (yv h0)) k (wk_stk h, s) ([], sN) M ∧ zt + k = N ∧ gm_len s = mi_f h 14033 ∧ R = zp_f h0 M (some o) ∧ oR h (some o) ∧ 0 ≤ mi_f h 14036 ∧ mi_f h 14036 ≤ zt + 1
def zp_H (Y : wk_Y) (h0 : sm_H) (N : Nat) (sN : gm_S) (R : Option ox) (zt : Int) (h : sm_H) : Prop := (ab_Sh sx_sk h ∧ ab_Fr wr_WK h0 h ∧ mi_f h 14044 = 1 ∧ R = none) ∨ zp_I Y h0 N sN R zt h
def zp_End (h0 : sm_H) (R : Option ox) (w : Option mi_V) (h' : sm_H) : Prop := w = none ∧ ab_Sh sx_sk h' ∧ ab_Fr wr_WK h0 h' ∧ oR h' R
variable {N : Nat} {sN : gm_S} {R : Option ox} {LN : List (Int × Int)}
theorem zp_247 {zt : Int} {q3 q4 : Option mi_V} {h : sm_H} (oh : mi_in zh) (ot : mi_in zt) (o3 : ∀ v, q3 = some v → mi_ok v) (o4 : ∀ v, q4 = some v → mi_ok v) (hN : N < 40000) (hH : zp_H Y h0 N sN R zt h) (he : zp_I Y h0 N sN R zt h → mi_f h 14029 ≤ 0 ∨ zt = 40000) : me_E (d + 7) 206 247 [some (.inr (.inr 109)), some (.inl zh), some (.inl zt), q3, q4] [] h (zp_End h0 R) := by
  have hS : ab_Sh sx_sk h := by
    rcases hH with hH | hH
    · exact hH.1
    · exact hH.1.1.1
  have fin : zp_End h0 R none h := by
    rcases hH with ⟨k1, k2, k3, k4⟩ | hI
    · exact ⟨rfl, k1, k2, Or.inl ⟨k4, k3⟩⟩
    · refine ⟨rfl, hS, hI.1.2.1, ?_⟩
      have e := he hI
      obtain ⟨hw, s, M, o, k, m1, m2, m3, m4, m5, -⟩ := hI
      rcases e with e | e
      · have := hw.1.2.2.2.2.2.2.1
        have e0 : mi_f h 14029 = 0 := by omega
        have est : wk_stk h = [] := by
          unfold wk_stk
          rw [e0]
          rfl
        rw [est] at m1
        obtain ⟨x1, x2, x3⟩ := pe_u 0 k _ [] M (show pe_to (dm_st (mi_a h0) (yv h0) 0) (dv (mi_a h0) (yv h0)) 0 (([], s) : gm_C) ([], s) [] from ⟨rfl, rfl⟩) m1
        rw [m4, ← x3]
        exact m5
      · exfalso; omega
  refine mt_waE hS oh ot o3 o4 ?_ ?_ ?_ ?_ ?_
  · intro b c h3 r1 r2
    have e3 := me_nil r2
    subst e3
    exact fin
  · intro b1 b2 c1 c2 h3 r1 r2
    have e3 := me_nil r2
    subst e3
    exact fin
  · intro b1 b2 b3 c1 c2 c3 h3 r1 r2
    have e3 := me_nil r2
    subst e3
    exact fin
  · intro b1 b2 b3 b4 c1 c2 c3 c4
    exfalso
    rcases hH with hH | hI
    · have := hH.2.2.1
      omega
    · have := hI.1.1.2.1
      omega
  · intro b1 b2 b3 b4 c1 c2 c3 c4
    exfalso
    rcases hH with hH | hI
    · have := hH.2.2.1
      omega
    · have := hI.1.1.2.1
      omega
/-- what is there before a turn, and what is to be shown of it -/
theorem zp_turn {zt : Int} {h : sm_H} {e : wk_E} {r : List wk_E} (hS0 : ab_Sh sx_sk h0) (hG : zp_G Y h0 N sN LN) (hI : zp_I Y h0 N sN R zt h) (z0 : 0 ≤ zt) (hst : wk_stk h = e :: r) : ∃ (s : gm_S) (o : ox) (c1 : gm_C), oR h (some o) ∧ gm_len s = mi_f h 14033 ∧ dm_st (mi_a h0) (yv h0) 0 e r s = some c1 ∧ (∀ x ∈ gm_T c1.2, x ∈ gm_T sN) ∧ 0 ≤ mi_f h 14036 ∧ mi_f h 14036 ≤ zt + 1 ∧ ∀ h', wl_H Y h0 2 (tp_I h0) (zt + 1) h' → oR h' (zp_f h0 (dv (mi_a h0) (yv h0) e s) (some o)) → 0 ≤ mi_f h' 14036 → mi_f h' 14036 ≤ mi_f h 14036 + 1 → zp_H Y h0 N sN R (zt + 1) h' := by
  obtain ⟨hw, s, M, o, k, m1, m2, m3, m4, m5, m6, m7⟩ := hI
  rw [hst] at m1
  cases k with
  | zero =>
    obtain ⟨x, -⟩ := m1
    cases x
  | succ k =>
    obtain ⟨c1, M1, n1, n2, n3⟩ := pe_cons m1
    refine ⟨s, o, c1, m5, m3, n1, fun x hx => ?_, m6, m7, fun h' hH hR b0 b1 => ?_⟩
    · exact (dw_to (V' := yv h0) (fun y hy _ _ => hG.2.2.1 y hy) k c1 (pe_pw _ _ _ n2)).2 x hx
    · have e4 : R = zp_f h0 M1 (zp_f h0 (dv (mi_a h0) (yv h0) e s) (some o)) := by
        rw [m4, n3]
        exact ofd_app _ _ _
      generalize zp_f h0 (dv (mi_a h0) (yv h0) e s) (some o) = y at hR e4
      cases y with
      | none =>
        have x1 := oR_no hR
        have e5 : R = none := e4.trans (ofd_none M1)
        rcases hH with hH | hH
        · exact Or.inl ⟨hH.1, hH.2.1, x1, e5⟩
        · exact Or.inl ⟨hH.1.1, hH.2.1, x1, e5⟩
      | some o' =>
        have x1 := (oR_len hR).1
        rcases hH with hH | hH
        · exfalso
          rcases hH.2.2 with q | q
          · omega
          · exact absurd q.1 (by decide)
        · have t0 : tp_I h0 zt h := hw.2.2.2.1
          have t1 : tp_I h0 (zt + 1) h' := hH.2.2.2.1
          unfold tp_I at t0 t1
          rw [wk_tr_S z0 t0, hst] at t1
          have w0 := hw.1.2.2.2.2.2.2.2.2.2.2
          have w0' := hH.1.2.2.2.2.2.2.2.2.2.2
          have ew : wk_n 2 h = mi_f h 14033 := rfl
          have ew' : wk_n 2 h' = mi_f h' 14033 := rfl
          obtain ⟨p1, p2⟩ := dm_pf (V := yv h0) (c := (wk_n 2 h).toNat) (by omega) (by
            show (mx_b h0 162 (wk_n 2 h).toNat).toInt = (mx_b h0 162 (gm_len s).toNat).toInt
            rw [m3, ew]) (show dm_st (mi_a h0) (yv h0) 0 e r s = some (c1.1, c1.2) from n1) t1
          refine Or.inr ⟨hH, c1.2, M1, o', k, ?_, by omega, by omega, e4, hR, b0, by omega⟩
          rw [← p1]
          exact n2
/-- what is known of a leaf that was taken -/
theorem zp_leaf {u : Int} {r r1 : List wk_E} {s s1 : gm_S} (hG : zp_G Y h0 N sN LN) (h : dm_sg 0 (mi_a h0) (yv h0) u r s = some (r1, s1)) (hm : ∀ x ∈ gm_T s1, x ∈ gm_T sN) (u0 : 0 ≤ u) (u1 : u < wk_u Y) : yl h0 u (gm_len s) := by
  obtain ⟨-, -, -, g4, g5, g6⟩ := hG
  unfold dm_sg at h
  refine ⟨fun q => ?_, fun q => ?_, g6 u u0 u1, fun q => ?_⟩
  · rw [if_neg (by omega), if_neg (by omega)] at h
    obtain ⟨t, k1, k2⟩ := Option.map_eq_some_iff.mp h
    injection k2 with k3 k4
    subst k4
    unfold dm_lf at k1
    rw [if_pos q] at k1
    obtain ⟨A, a1, a2, a3, dd, a4⟩ := pv_c (by decide) k1
    have := (g4 _ (hm _ (by rw [a1, a4]; exact List.mem_append_right _ List.mem_cons_self))).1
    dsimp only at this
    have := this (by omega)
    obtain ⟨w0, w1⟩ := g5 u u0 u1 q
    exact ⟨this.1, this.2, w0, w1⟩
  · rw [if_neg (by omega), if_neg (by omega)] at h
    obtain ⟨t, k1, k2⟩ := Option.map_eq_some_iff.mp h
    injection k2 with k3 k4
    subst k4
    unfold dm_lf at k1
    rw [if_neg (by omega), if_pos q] at k1
    obtain ⟨A, a1, a2, a3, dd, a4⟩ := pv_c (by decide) k1
    have := (g4 _ (hm _ (by rw [a1, a4]; exact List.mem_append_right _ List.mem_cons_self))).2
    dsimp only at this
    exact this (by omega)
  · rw [if_neg (by omega), if_neg (by omega)] at h
    obtain ⟨t, k1, k2⟩ := Option.map_eq_some_iff.mp h
    unfold dm_lf at k1
    have gl : gm_len s = ((gm_T s).length : Int) := rfl
    rcases q with q | q
    · rw [if_pos q] at k1
      have := (gm_c_len k1).1
      omega
    · rw [if_neg (by omega), if_pos q] at k1
      have := (gm_c_len k1).1
      omega
theorem zp_ye {u c : Int} {o : ox} : zp_f h0 (dv_lf (mi_a h0) (yv h0) u c) (some o) = ye h0 u c o := by
  unfold zp_f dv_lf ye
  by_cases q : mi_a h0 119 u.toNat = 9 ∨ mi_a h0 119 u.toNat = 10
  · rw [if_pos q, if_pos q]
    rfl
  · rw [if_neg q, if_neg q]
    rfl
theorem zp_yo {zt : Int} {h h1 : sm_H} {o : ox} (hI : wl_I Y h0 2 (tp_I h0) zt h) (ht : 0 < mi_f h 14029) (g1 : ab_Sh sx_sk h1) (g2 : mi_f h1 14029 = mi_f h 14029 - 1) (g3 : ab_Fr [(14029, 14030)] h h1) (hR : oR h (some o)) (b0 : 0 ≤ mi_f h 14036) (b1 : mi_f h 14036 ≤ 40000) (n100 : mi_f h 14033 ≤ 100) : yo h1 o := by
  have hS := hI.1.1
  have w0 := hI.1.2.2.2.2.2.2.2.2.2.2
  have ew : wk_n 2 h = mi_f h 14033 := rfl
  have f36 : mi_f h1 14036 = mi_f h 14036 := me_f (c := 14036) g3 hS rfl rfl
  have f32 : mi_f h1 14032 = mi_f h 14032 := me_f (c := 14032) g3 hS rfl rfl
  have f33 : mi_f h1 14033 = mi_f h 14033 := me_f (c := 14033) g3 hS rfl rfl
  have i7 := hI.1.2.2.2.2.2.2.2.1
  have i8 := hI.1.2.2.2.2.2.2.2.2.1
  exact ⟨g1, (me_f (c := 14028) g3 hS rfl rfl).trans hI.1.2.1, oR_fr hR g3 hS rfl, by omega, by omega, by omega, by omega, by omega, by omega, by omega⟩
end ZP
/-! the turns of the reference's walk that prints -/
theorem pf_unit {g : wk_g} {K V : Nat → Int} {w a : Int} {r : List wk_E} {c : Nat} {s' : List wk_E × Nat} (h : wk_pf g K V ((0, w, a) :: r, c) = some s') : (g 122 w.toNat = 1 ∨ g 122 w.toNat = 2) → (0 ≤ V c ∧ V c ≤ 1000000) ∧ c + 1 ≤ s'.2 := by
  intro q
  unfold wk_pf at h
  dsimp only at h
  rw [if_pos rfl] at h
  by_cases c1 : g 122 w.toNat = 1
  · rw [if_pos c1] at h
    split at h
    · rename_i k
      injection h with h
      subst h
      exact ⟨k.2, Nat.le_refl _⟩
    · cases h
  · have c2 : g 122 w.toNat = 2 := by omega
    rw [if_neg c1, if_pos c2] at h
    split at h
    · rename_i k
      refine ⟨k.2, ?_⟩
      split at h
      · exact wk_sg_mono h
      · injection h with h
        subst h
        exact Nat.le_refl _
    · cases h
section ZPT
variable {d : Nat} {h0 : sm_H} {Y : wk_Y} {N : Nat} {sN : gm_S} {R : Option ox} {LN : List (Int × Int)}
theorem zp_u {h h1 : sm_H} {zt w a : Int} (hS0 : ab_Sh sx_sk h0) (hT : wl_T Y h0 2 (tp_I h0)) (hL : wk_L (mi_a h) Y) (hG : zp_G Y h0 N sN LN) (hI : zp_I Y h0 N sN R zt h) (z0 : 0 ≤ zt) (z1 : zt < 40000) (ht : 0 < mi_f h 14029) (g1 : ab_Sh sx_sk h1) (g2 : mi_f h1 14029 = mi_f h 14029 - 1) (g3 : ab_Fr [(14029, 14030)] h h1) (e0 : mi_a h 165 (mi_f h 14029 - 1).toNat = 0) (ew : mi_a h 166 (mi_f h 14029 - 1).toNat = w) (ea : mi_a h 167 (mi_f h 14029 - 1).toNat = a) (ha : a = 0 ∨ a = 1) : me_E (d + 6) 210 0 [some (.inr (.inr 109)), some (.inl w), some (.inl a), none, none] [] h1 (fun v h' => v = none ∧ zp_H Y h0 N sN R (zt + 1) h') := by
  obtain ⟨e1, hg, hn, hag, hK2, hV2, hZ, e30, e32, e16, hlen⟩ := wl_pop hI.1 ht g1 g2 g3
  rw [e0, ew, ea] at e1
  have hSI := hI.1.2.2.1
  rw [e1] at hSI
  have hU : wk_U Y w ((wk_stk h1).length : Int) (mi_f h 14030) (mi_f h 14032) (1 - a) := by
    rcases ha with rfl | rfl
    · exact (wk_unit0 hSI).1
    · exact (wk_unit1 hSI).1
  obtain ⟨u1, u2, u3, u4, u5, u6, u7⟩ := hU
  obtain ⟨⟨a1, -, -, a4, a5⟩, -⟩ := hL.2.2.1 w u1 u2
  have hd := (hL.2.2.2 _ a4 a5).2.1
  obtain ⟨s, o, c1, t1, t2, t3, t4, b0, b1, t5⟩ := zp_turn hS0 hG hI z0 e1
  obtain ⟨s', x1, x2⟩ := hT.1 rfl zt h hI.1 (by rw [e1]; intro z; cases z) z0 z1
  have xm := wk_pf_mono x1
  have ewn : wk_n 2 h = mi_f h 14033 := rfl
  have w0 := hI.1.1.2.2.2.2.2.2.2.2.2.2
  have xm : (wk_n 2 h).toNat ≤ s'.2 := xm
  rw [e1] at x1
  have F01 : ab_Fr wr_WK h0 h1 := hI.1.2.1.trans (g3.wide (fun c hc => ab_swr_ok (by decide) hc))
  have f33 : mi_f h1 14033 = mi_f h 14033 := me_f (c := 14033) g3 hI.1.1.1 rfl rfl
  have f36 : mi_f h1 14036 = mi_f h 14036 := me_f (c := 14036) g3 hI.1.1.1 rfl rfl
  have f30 : mi_f h1 14030 = mi_f h 14030 := e30
  have hg0 : wk_gc (mi_a h0) (mi_a h1) := wk_gc_fr F01 hS0 rfl
  have hgh : wk_gc (mi_a h0) (mi_a h) := wk_gc_fr hI.1.2.1 hS0 rfl
  have yv1 : ∀ c, yv h1 c = yv h0 c := fun c => by unfold yv; rw [me_b (k := 162) F01 hS0 rfl rfl]
  have yev : ∀ (u c : Int) (y : ox), ye h1 u c y = ye h0 u c y := fun u c y => (ye_fr (u := u) (c := c) (y := y) F01 hS0 rfl rfl rfl rfl rfl).1
  have ylv : ∀ (u c : Int), yl h0 u c → yl h1 u c := fun u c => (ye_fr (u := u) (c := c) (y := o) F01 hS0 rfl rfl rfl rfl rfl).2
  have e122 : mi_a h1 122 w.toNat = mi_a h0 122 w.toNat := hg0 122 (by decide) _
  have pu := pf_unit x1
  have eV : wk_V 2 h (wk_n 2 h).toNat = yv h0 (mi_f h 14033) := by
    show (mx_b h 162 (mi_f h 14033).toNat).toInt = (mx_b h0 162 (mi_f h 14033).toNat).toInt
    rw [me_b (k := 162) hI.1.2.1 hS0 rfl rfl]
  rw [dm_st_0] at t3
  have lo : gm_len (gm_op a s) = gm_len s := gm_op_e.2
  have edv : dv (mi_a h0) (yv h0) (0, w, a) s = if mi_a h0 122 w.toNat = 1 then [] else if mi_a h0 122 w.toNat = 2 then (if 0 < yv h0 (gm_len s) then dv_lf (mi_a h0) (yv h0) w (gm_len s + 1) else []) else dv_lf (mi_a h0) (yv h0) w (gm_len s) := by
    unfold dv
    rw [if_pos rfl]
  refine ((wl_u (d := d) hT hL hI.1 z0 z1 ht g1 g2 g3 e0 ew ea ha).and (me_unito (d := d) (o := o) (zp_yo hI.1 ht g1 g2 g3 t1 b0 (by omega) (by omega)) (wl_us hL hg u1 u2) (by omega) ha (fun z => by omega) (fun q => ?_) (fun q1 q2 => ?_) (fun q1 q2 => ?_))).imp (fun v h' hq => ?_)
  · have := pu (by rw [hgh 122 (by decide), ← e122]; exact q)
    rw [eV] at this
    rw [f33, yv1]
    exact ⟨this.1, by omega⟩
  · rw [f33, yv1] at q2
    rw [e122] at q1
    rw [f33]
    unfold dm_u at t3
    rw [if_neg (by omega), if_pos q1] at t3
    obtain ⟨t, k1, k2⟩ := Option.bind_eq_some_iff.mp t3
    rw [lo, t2, if_pos q2] at k2
    obtain ⟨A, -, -, a3, -⟩ := pv_c (by decide) k1
    have ld : gm_len (gm_d t) = gm_len t := gm_d_e.1
    have := zp_leaf hG (show dm_sg 0 (mi_a h0) (yv h0) w ((2, 0, 0) :: wk_stk h1) (gm_d t) = some (c1.1, c1.2) from k2) t4 u1 u2
    rw [ld, a3, lo, t2] at this
    exact ylv _ _ this
  · rw [e122] at q1 q2
    rw [f33]
    unfold dm_u at t3
    rw [if_neg q1, if_neg q2] at t3
    have := zp_leaf hG (show dm_sg 0 (mi_a h0) (yv h0) w (wk_stk h1) (gm_op a s) = some (c1.1, c1.2) from t3) t4 u1 u2
    rw [lo, t2] at this
    exact ylv _ _ this
  · obtain ⟨⟨q1, q2⟩, -, -, q5, q6, q7⟩ := hq
    refine ⟨q1, t5 h' q2 ?_ q6 (by omega)⟩
    have : yu h1 w (mi_f h1 14033) o = zp_f h0 (dv (mi_a h0) (yv h0) (0, w, a) s) (some o) := by
      rw [edv, t2, f33]
      unfold yu
      rw [e122]
      by_cases c1 : mi_a h0 122 w.toNat = 1
      · rw [if_pos c1, if_pos c1]
        rfl
      · rw [if_neg c1, if_neg c1]
        by_cases c2 : mi_a h0 122 w.toNat = 2
        · rw [if_pos c2, if_pos c2, yv1]
          by_cases cv : 0 < yv h0 (mi_f h 14033)
          · rw [if_pos cv, if_pos cv, zp_ye]
            exact yev _ _ _
          · rw [if_neg cv, if_neg cv]
            rfl
        · rw [if_neg c2, if_neg c2, zp_ye]
          exact yev _ _ _
    rw [← this]
    exact q5
theorem zp_a {h h1 : sm_H} {zt w a : Int} (hS0 : ab_Sh sx_sk h0) (hT : wl_T Y h0 2 (tp_I h0)) (hL : wk_L (mi_a h) Y) (hG : zp_G Y h0 N sN LN) (hI : zp_I Y h0 N sN R zt h) (z0 : 0 ≤ zt) (z1 : zt < 40000) (ht : 0 < mi_f h 14029) (g1 : ab_Sh sx_sk h1) (g2 : mi_f h1 14029 = mi_f h 14029 - 1) (g3 : ab_Fr [(14029, 14030)] h h1) (e0 : mi_a h 165 (mi_f h 14029 - 1).toNat = 5) (ew : mi_a h 166 (mi_f h 14029 - 1).toNat = w) (ea : mi_a h 167 (mi_f h 14029 - 1).toNat = a) : me_E (d + 6) 227 0 [some (.inr (.inr 109)), some (.inl w), some (.inl a), none] [] h1 (fun v h' => v = none ∧ zp_H Y h0 N sN R (zt + 1) h') := by
  obtain ⟨e1, hg, hn, hag, hK2, hV2, hZ, e30, e32, e16, hlen⟩ := wl_pop hI.1 ht g1 g2 g3
  rw [e0, ew, ea] at e1
  have oa : mi_in a := by rw [← ea]; exact mi_inT _
  have hSI := hI.1.2.2.1
  rw [e1] at hSI
  obtain ⟨⟨u1, u2, u3, u4, u5, u6, u7⟩, hb⟩ := wk_again hSI
  obtain ⟨⟨a1, -⟩, -⟩ := hL.2.2.1 w u1 u2
  obtain ⟨s, o, c1, t1, t2, t3, t4, b0, b1, t5⟩ := zp_turn hS0 hG hI z0 e1
  obtain ⟨s', x1, x2⟩ := hT.1 rfl zt h hI.1 (by rw [e1]; intro z; cases z) z0 z1
  have xm := wk_pf_mono x1
  have ewn : wk_n 2 h = mi_f h 14033 := rfl
  have w0 := hI.1.1.2.2.2.2.2.2.2.2.2.2
  have xm : (wk_n 2 h).toNat ≤ s'.2 := xm
  have F01 : ab_Fr wr_WK h0 h1 := hI.1.2.1.trans (g3.wide (fun c hc => ab_swr_ok (by decide) hc))
  have f33 : mi_f h1 14033 = mi_f h 14033 := me_f (c := 14033) g3 hI.1.1.1 rfl rfl
  have f36 : mi_f h1 14036 = mi_f h 14036 := me_f (c := 14036) g3 hI.1.1.1 rfl rfl
  have yev : ∀ (u c : Int) (y : ox), ye h1 u c y = ye h0 u c y := fun u c y => (ye_fr (u := u) (c := c) (y := y) F01 hS0 rfl rfl rfl rfl rfl).1
  have ylv : ∀ (u c : Int), yl h0 u c → yl h1 u c := fun u c => (ye_fr (u := u) (c := c) (y := o) F01 hS0 rfl rfl rfl rfl rfl).2
  rw [dm_st_5] at t3
  have edv : dv (mi_a h0) (yv h0) (5, w, a) s = if 0 < a then dv_lf (mi_a h0) (yv h0) w (gm_len s) else [] := by
    unfold dv
    rw [if_neg (show ¬ (5 : Int) = 0 by decide), if_pos rfl]
  refine ((wl_a (d := d) hT hL hI.1 z0 z1 ht g1 g2 g3 e0 ew ea).and (me_againo (d := d) (o := o) (zp_yo hI.1 ht g1 g2 g3 t1 b0 (by omega) (by omega)) (wl_us hL hg u1 u2) oa (fun q => ?_) (by omega))).imp (fun v h' hq => ?_)
  · rw [f33]
    unfold dm_ag at t3
    rw [if_pos q] at t3
    have := zp_leaf hG (show dm_sg 0 (mi_a h0) (yv h0) w ((5, w, a - 1) :: wk_stk h1) s = some (c1.1, c1.2) from t3) t4 u1 u2
    rw [t2] at this
    exact ylv _ _ this
  · obtain ⟨⟨q1, q2⟩, -, -, q5, q6, q7⟩ := hq
    refine ⟨q1, t5 h' q2 ?_ q6 (by omega)⟩
    have : (if 0 < a then ye h1 w (mi_f h1 14033) o else some o) = zp_f h0 (dv (mi_a h0) (yv h0) (5, w, a) s) (some o) := by
      rw [edv, t2, f33]
      by_cases ca : 0 < a
      · rw [if_pos ca, if_pos ca, zp_ye]
        exact yev _ _ _
      · rw [if_neg ca, if_neg ca]
        rfl
    rw [← this]
    exact q5
theorem zp_c {h h1 : sm_H} {zt f a : Int} (hS0 : ab_Sh sx_sk h0) (hT : wl_T Y h0 2 (tp_I h0)) (hL : wk_L (mi_a h) Y) (hG : zp_G Y h0 N sN LN) (hI : zp_I Y h0 N sN R zt h) (z0 : 0 ≤ zt) (z1 : zt < 40000) (ht : 0 < mi_f h 14029) (g1 : ab_Sh sx_sk h1) (g2 : mi_f h1 14029 = mi_f h 14029 - 1) (g3 : ab_Fr [(14029, 14030)] h h1) (e0 : mi_a h 165 (mi_f h 14029 - 1).toNat = 1) (ew : mi_a h 166 (mi_f h 14029 - 1).toNat = f) (ea : mi_a h 167 (mi_f h 14029 - 1).toNat = a) : me_E (d + 6) 223 0 [some (.inr (.inr 109)), some (.inl f), none, none, none, none] [] h1 (fun v h' => v = none ∧ zp_H Y h0 N sN R (zt + 1) h') := by
  obtain ⟨e1, hg, hn, hag, hK2, hV2, hZ, e30, e32, e16, hlen⟩ := wl_pop hI.1 ht g1 g2 g3
  rw [e0, ew, ea] at e1
  have hSI := hI.1.2.2.1
  rw [e1] at hSI
  obtain ⟨hF, hb⟩ := wk_form hSI
  have hL1 : wk_L (mi_a h1) Y := wk_L_g hL hg
  obtain ⟨f1, f2, -⟩ := id hF
  obtain ⟨d1, d2, d3, d4, dB, d5⟩ := hL1.2.2.2 f f1 f2
  have hf80 := hL.2.1
  obtain ⟨s, o, c1, t1, t2, t3, t4, b0, b1, t5⟩ := zp_turn hS0 hG hI z0 e1
  obtain ⟨s', x1, x2⟩ := hT.1 rfl zt h hI.1 (by rw [e1]; intro z; cases z) z0 z1
  have xm := wk_pf_mono x1
  have ewn : wk_n 2 h = mi_f h 14033 := rfl
  have w0 := hI.1.1.2.2.2.2.2.2.2.2.2.2
  have xm : (wk_n 2 h).toNat ≤ s'.2 := xm
  have F01 : ab_Fr wr_WK h0 h1 := hI.1.2.1.trans (g3.wide (fun c hc => ab_swr_ok (by decide) hc))
  have hg0 : wk_gc (mi_a h0) (mi_a h1) := wk_gc_fr F01 hS0 rfl
  have f33 : mi_f h1 14033 = mi_f h 14033 := me_f (c := 14033) g3 hI.1.1.1 rfl rfl
  have f36 : mi_f h1 14036 = mi_f h 14036 := me_f (c := 14036) g3 hI.1.1.1 rfl rfl
  have yv1 : ∀ c, yv h1 c = yv h0 c := fun c => by unfold yv; rw [me_b (k := 162) F01 hS0 rfl rfl]
  rw [dm_st_1] at t3
  have edv : dv (mi_a h0) (yv h0) (1, f, a) s = [] := by
    unfold dv
    rw [if_neg (show ¬ (1 : Int) = 0 by decide), if_neg (show ¬ (1 : Int) = 5 by decide)]
  rw [edv] at t5
  refine ((wl_f (d := d) hT hL hI.1 z0 z1 ht g1 g2 g3 e0 ew ea).and (me_chooseo (d := d) (o := o) (zp_yo hI.1 ht g1 g2 g3 t1 b0 (by omega) (by omega)) f1 (by omega) ⟨d3, d4, fun j hj => ⟨(d5 j hj).1, (d5 j hj).2.1⟩⟩ (wk_L_C hL1) (fun j hj => ?_) (fun j hj => ?_) (fun hc => ?_))).imp (fun v h' hq => ?_)
  · rcases (d5 j hj).2.2 with x | x
    · exact Or.inl x
    · exact Or.inr x.1
  · have := (wl_D hL1 hF hb hj).1
    omega
  · rw [f33, yv1]
    rw [hg0 130 (by decide)] at hc ⊢
    unfold dm_fo at t3
    rw [if_pos hc, t2] at t3
    have gl : gm_len s = ((gm_T s).length : Int) := rfl
    split at t3
    · rename_i k
      obtain ⟨t, k1, k2⟩ := Option.map_eq_some_iff.mp t3
      have := (gm_c_len k1).1
      exact ⟨k.1, k.2, by omega⟩
    · cases t3
  · obtain ⟨⟨q1, q2⟩, -, -, q5, q6, q7⟩ := hq
    exact ⟨q1, t5 h' q2 q5 q6 (by omega)⟩
end ZPT
/-! the loop of the reference's walk that prints; the walk -/
section ZPL
variable {d : Nat} {h0 : sm_H} {Y : wk_Y} {zh : Int} {N : Nat} {sN : gm_S} {R : Option ox} {LN : List (Int × Int)}
/-- a turn that prints nothing -/
theorem zp_rest {zt e w a : Int} {h h' : sm_H} {r : List wk_E} {wr : List (Nat × Nat)} (hS0 : ab_Sh sx_sk h0) (hG : zp_G Y h0 N sN LN) (hI : zp_I Y h0 N sN R zt h) (z0 : 0 ≤ zt) (hst : wk_stk h = (e, w, a) :: r) (he : e = 2 ∨ e = 3 ∨ e = 4) (g1 : ab_Sh sx_sk h') (hF : ab_Fr wr h h') (hw : (ab_in wr 14036 || ab_in wr 14037 || ab_in wr 14044 || ab_in wr 14045 || ab_in wr 14046 || ab_in wr 21760) = false) (hH : wl_H Y h0 2 (tp_I h0) (zt + 1) h') : zp_H Y h0 N sN R (zt + 1) h' := by
  obtain ⟨s, o, c1, t1, t2, t3, t4, b0, b1, t5⟩ := zp_turn hS0 hG hI z0 hst
  have edv : dv (mi_a h0) (yv h0) (e, w, a) s = [] := by
    unfold dv
    rw [if_neg (show ¬ e = 0 by omega), if_neg (show ¬ e = 5 by omega)]
  rw [edv] at t5
  have hS := hI.1.1.1
  have w1 : ab_in wr 14036 = false := by
    simp only [Bool.or_eq_false_iff] at hw
    exact hw.1.1.1.1.1
  have e36 := me_f (c := 14036) hF hS rfl w1
  exact t5 h' hH (oR_fr t1 hF hS hw) (by omega) (by omega)
theorem zp_loop (hT : wl_T Y h0 2 (tp_I h0)) (hL0 : wk_L (mi_a h0) Y) (hS0 : ab_Sh sx_sk h0) (hG : zp_G Y h0 N sN LN) (oh : mi_in zh) : ∀ (J : Nat) (zt : Int) (q3 q4 : Option mi_V) (h : sm_H), 40000 - zt < J → 0 ≤ zt → zt ≤ 40000 → (∀ v, q3 = some v → mi_ok v) → (∀ v, q4 = some v → mi_ok v) → zp_H Y h0 N sN R zt h → me_E (d + 7) 206 52 [some (.inr (.inr 109)), some (.inl zh), some (.inl zt), q3, q4] [] h (zp_End h0 R) := by
  intro J
  induction J with
  | zero => intro zt q3 q4 h hN z0 z1; exfalso; omega
  | succ J ih =>
    intro zt q3 q4 h hN z0 z1 o3 o4 hH
    have ot : mi_in zt := ⟨by omega, by omega⟩
    have hS : ab_Sh sx_sk h := by
      rcases hH with hH | hH
      · exact hH.1
      · exact hH.1.1.1
    have toI : mi_f h 14034 < 0 → mi_f h 14044 = 0 → zp_I Y h0 N sN R zt h := fun a b => by
      rcases hH with hH | hH
      · exfalso
        have := hH.2.2.1
        omega
      · exact hH
    have o2 : ∀ x : Int32, ∀ v : mi_V, some (Sum.inl x.toInt : mi_V) = some v → mi_ok v := fun x v e => by
      cases e
      exact mi_inT x
    have nx : ∀ (x y : Int32) (h' : sm_H), zt < 40000 → zp_H Y h0 N sN R (zt + 1) h' → ab_Sh sx_sk h' ∧ me_E (d + 7) 206 52 [some (.inr (.inr 109)), some (.inl zh), some (.inl (zt + 1)), some (.inl x.toInt), some (.inl y.toInt)] [] h' (zp_End h0 R) := fun x y h' hlt hq => by
      refine ⟨?_, ih (zt + 1) _ _ h' (by omega) (by omega) (by omega) (o2 x) (o2 y) hq⟩
      rcases hq with hq | hq
      · exact hq.1
      · exact hq.1.1.1
    have nx175 : ∀ (x y : Int32) (h' : sm_H), zt < 40000 → zp_H Y h0 N sN R (zt + 1) h' → me_E (d + 7) 206 175 [some (.inr (.inr 109)), some (.inl zh), some (.inl zt), some (.inl x.toInt), some (.inl y.toInt)] [] h' (zp_End h0 R) := fun x y h' hlt hq => mt_wb175 (nx x y h' hlt hq).1 oh ot (mi_inT x) (mi_inT y) ⟨by omega, fun h3 r1 r2 => by
      have e3 := me_nil r2
      subst e3
      exact (nx x y _ hlt hq).2⟩
    have nx183 : ∀ (x y : Int32) (h' : sm_H), zt < 40000 → zp_H Y h0 N sN R (zt + 1) h' → me_E (d + 7) 206 183 [some (.inr (.inr 109)), some (.inl zh), some (.inl zt), some (.inl x.toInt), some (.inl y.toInt)] [] h' (zp_End h0 R) := fun x y h' hlt hq => mt_wb183 (nx x y h' hlt hq).1 oh ot (mi_inT x) (mi_inT y) ⟨by omega, fun h3 r1 r2 => by
      have e3 := me_nil r2
      subst e3
      exact (nx x y _ hlt hq).2⟩
    have nx208 : ∀ (x y : Int32) (h' : sm_H), zt < 40000 → zp_H Y h0 N sN R (zt + 1) h' → me_E (d + 7) 206 208 [some (.inr (.inr 109)), some (.inl zh), some (.inl zt), some (.inl x.toInt), some (.inl y.toInt)] [] h' (zp_End h0 R) := fun x y h' hlt hq => mt_wb208 (nx x y h' hlt hq).1 oh ot (mi_inT x) (mi_inT y) ⟨by omega, fun h3 r1 r2 => by
      have e3 := me_nil r2
      subst e3
      exact (nx x y _ hlt hq).2⟩
    have nx218 : ∀ (x y : Int32) (h' : sm_H), zt < 40000 → zp_H Y h0 N sN R (zt + 1) h' → me_E (d + 7) 206 218 [some (.inr (.inr 109)), some (.inl zh), some (.inl zt), some (.inl x.toInt), some (.inl y.toInt)] [] h' (zp_End h0 R) := fun x y h' hlt hq => mt_wb218 (nx x y h' hlt hq).1 oh ot (mi_inT x) (mi_inT y) ⟨by omega, fun h3 r1 r2 => by
      have e3 := me_nil r2
      subst e3
      exact (nx x y _ hlt hq).2⟩
    refine mt_waC hS oh ot o3 o4 ?_ ?_ ?_ ?_ ?_ ?_ ?_ ?_ ?_ ?_ ?_ ?_
    · intro c h1 g1 g2
      have e1 := me_nil g2
      subst e1
      exact zp_247 oh ot o3 o4 hG.2.1 hH (fun _ => Or.inr (by omega))
    · intro b1 c1 c2 h1 g1 g2
      have e1 := me_nil g2
      subst e1
      exact zp_247 oh ot o3 o4 hG.2.1 hH (fun _ => Or.inl c2)
    · intro b1 b2 c1 c2 c3 h1 g1 g2
      have e1 := me_nil g2
      subst e1
      exact zp_247 oh ot o3 o4 hG.2.1 hH (fun hI => by have := hI.1.1.2.2.2.2.1; omega)
    · intro b1 b2 b3 c1 c2 c3 c4 h1 g1 g2
      have e1 := me_nil g2
      subst e1
      exact zp_247 oh ot o3 o4 hG.2.1 hH (fun hI => by have := hI.1.1.2.2.2.1; omega)
    · intro b1 b2 b3 c1 c2 c3 c4 s k
      have hP := toI c3 c4
      have hI := hP.1
      have hL : wk_L (mi_a h) Y := wk_L_g hL0 (wk_gc_fr hI.2.1 hS0 rfl)
      have hb29 := hI.2.2.2.2.1
      have htop := hI.2.2.1
      rw [wk_stk_pop c2] at htop
      have hcs := wk_cases htop
      dsimp only at hcs
      refine ⟨by omega, fun h1 g1 g2 g3 => ⟨_, zp_u hS0 hT hL hG hP z0 c1 c2 g1 g2 g3 (by omega) rfl (by omega) (by omega), fun v h' ov hq => ?_⟩⟩
      obtain ⟨rfl, hq⟩ := hq
      exact nx175 _ _ h' c1 hq
    · intro b1 b2 b3 c1 c2 c3 c4 s k
      have hP := toI c3 c4
      have hI := hP.1
      have hL : wk_L (mi_a h) Y := wk_L_g hL0 (wk_gc_fr hI.2.1 hS0 rfl)
      have hb29 := hI.2.2.2.2.1
      have htop := hI.2.2.1
      rw [wk_stk_pop c2] at htop
      have hcs := wk_cases htop
      dsimp only at hcs
      refine ⟨by omega, fun h1 g1 g2 g3 => ⟨_, zp_u hS0 hT hL hG hP z0 c1 c2 g1 g2 g3 (by omega) rfl (by omega) (by omega), fun v h' ov hq => ?_⟩⟩
      obtain ⟨rfl, hq⟩ := hq
      exact nx175 _ _ h' c1 hq
    · intro b1 b2 b3 c1 c2 c3 c4 s
      have hP := toI c3 c4
      have hI := hP.1
      have hL : wk_L (mi_a h) Y := wk_L_g hL0 (wk_gc_fr hI.2.1 hS0 rfl)
      have hb29 := hI.2.2.2.2.1
      have htop := hI.2.2.1
      rw [wk_stk_pop c2] at htop
      have hcs := wk_cases htop
      dsimp only at hcs
      refine ⟨by omega, fun h1 g1 g2 g3 => ⟨_, zp_c hS0 hT hL hG hP z0 c1 c2 g1 g2 g3 (by omega) rfl rfl, fun v h' ov hq => ?_⟩⟩
      obtain ⟨rfl, hq⟩ := hq
      exact nx183 _ _ h' c1 hq
    · intro b1 b2 b3 b4 c1 c2 c3 c4 s
      have hP := toI c3 c4
      have hI := hP.1
      have hb29 := hI.2.2.2.2.1
      have htop := hI.2.2.1
      have hst := wk_stk_pop c2
      have es : mi_a h 165 (mi_f h 14029 - 1).toNat = 2 := by omega
      rw [es] at hst
      rw [hst] at htop
      obtain ⟨w1, w2, w3, w4, w5⟩ := wk_out htop
      refine ⟨by omega, fun h1 g1 g2 g3 g4 g5 => ?_⟩
      have e30 : mi_f h1 14030 = mi_f h 14030 := me_f (c := 14030) g5 hS rfl rfl
      have e16 : mi_f h1 14016 = mi_f h 14016 := me_f (c := 14016) g5 hS rfl rfl
      refine (nx _ _ h1 c1 (zp_rest hS0 hG hP z0 hst (Or.inl rfl) g1 g5 rfl (Or.inr (wl_rest hT hI z0 c1 c2 g2 hst (Or.inl rfl) g1 g5 (by decide) ?_ (by omega) (by have := hI.2.2.2.2.2; omega))))).2
      rw [e30, g4]
      exact wk_SI_Z _ _ _ _ w5 (fun i _ => ⟨me_a (k := 168) g5 hS rfl rfl, me_a (k := 169) g5 hS rfl rfl⟩) (by show mi_f h 14016 ≤ mi_f h1 14016; omega)
    · intro b1 b2 b3 b4 b5 c1 c2 c3 c4 s
      have hP := toI c3 c4
      have hI := hP.1
      have hb29 := hI.2.2.2.2.1
      have hp60 := hI.2.2.2.2.2
      have htop := hI.2.2.1
      have hst := wk_stk_pop c2
      have es : mi_a h 165 (mi_f h 14029 - 1).toNat = 3 := by omega
      rw [es] at hst
      rw [hst] at htop
      obtain ⟨w1, w2, w3⟩ := wk_mid htop
      refine ⟨by omega, fun h1 g1 g2 g4 g5 => ?_⟩
      have e30 : mi_f h1 14030 = mi_f h 14030 := me_f (c := 14030) g5 hS rfl rfl
      have e32 : mi_f h1 14032 = mi_f h 14032 := me_f (c := 14032) g5 hS rfl rfl
      have e16 : mi_f h1 14016 = mi_f h 14016 := me_f (c := 14016) g5 hS rfl rfl
      refine (nx _ _ h1 c1 (zp_rest hS0 hG hP z0 hst (Or.inr (Or.inl rfl)) g1 g5 rfl (Or.inr (wl_rest hT hI z0 c1 c2 g2 hst (Or.inr (Or.inl rfl)) g1 g5 (by decide) ?_ (by rw [e32]; exact hI.1.2.2.2.2.2.2.2.2.1) (by omega))))).2
      rw [e30, e32]
      refine wk_middle (wk_SI_Z (Z' := wl_Z h1) _ _ _ _ w3 (fun i hi => ⟨me_a (k := 168) g5 hS rfl rfl, ?_⟩) (by show mi_f h 14016 ≤ mi_f h1 14016; omega)) ?_
      · rw [if_neg (by decide)] at hi
        show mi_a h1 169 i = mi_a h 169 i
        rw [g4, if_neg (by omega)]
      · have w2 : 0 ≤ mi_a h 168 (mi_f h 14030 - 1).toNat ∧ mi_a h 168 (mi_f h 14030 - 1).toNat ≤ mi_f h 14016 := w2
        show 0 ≤ mi_a h1 168 (mi_f h 14030 - 1).toNat ∧ mi_a h1 168 (mi_f h 14030 - 1).toNat ≤ mi_a h1 169 (mi_f h 14030 - 1).toNat ∧ mi_a h1 169 (mi_f h 14030 - 1).toNat ≤ mi_f h1 14016
        rw [g4, if_pos rfl, me_a (k := 168) g5 hS rfl rfl, e16]
        exact ⟨w2.1, w2.2, Int.le_refl _⟩
    · intro b1 b2 b3 c1 c2 c3 c4 s
      have hP := toI c3 c4
      have hI := hP.1
      have hb29 := hI.2.2.2.2.1
      have hp60 := hI.2.2.2.2.2
      have htop := hI.2.2.1
      have hst := wk_stk_pop c2
      have es : mi_a h 165 (mi_f h 14029 - 1).toNat = 4 := by omega
      rw [es] at hst
      rw [hst] at htop
      obtain ⟨w1, w2, w3⟩ := wk_turn htop
      have w2 : 0 ≤ mi_a h 168 (mi_f h 14030 - 1).toNat ∧ mi_a h 168 (mi_f h 14030 - 1).toNat ≤ mi_a h 169 (mi_f h 14030 - 1).toNat ∧ mi_a h 169 (mi_f h 14030 - 1).toNat ≤ mi_f h 14016 := w2
      refine ⟨by omega, fun h1 g1 g2 g3 => ?_⟩
      have e30 : mi_f h1 14030 = mi_f h 14030 := me_f (c := 14030) g3 hS rfl rfl
      have e16 : mi_f h1 14016 = mi_f h 14016 := me_f (c := 14016) g3 hS rfl rfl
      have e168 : mi_a h1 168 (mi_f h 14030 - 1).toNat = mi_a h 168 (mi_f h 14030 - 1).toNat := me_a (k := 168) g3 hS rfl rfl
      have e169 : mi_a h1 169 (mi_f h 14030 - 1).toNat = mi_a h 169 (mi_f h 14030 - 1).toNat := me_a (k := 169) g3 hS rfl rfl
      refine ⟨_, me_swap g1 (by omega) (by omega) (by rw [e30, e168]; exact w2.1) (by rw [e30, e168, e169]; exact w2.2.1) (by rw [e30, e169, e16]; exact w2.2.2), fun v h' ov hq => ?_⟩
      obtain ⟨rfl, q1, q2, q3⟩ := hq
      have hF : ab_Fr ([(14029, 14031), (18560, 18561), (20480, 20481)]) h h' := (g3.wide (fun c hc => ab_swr_ok (by decide) hc)).trans (q2.wide (fun c hc => ab_swr_ok (by decide) hc))
      have f29 : mi_f h' 14029 = mi_f h 14029 - 1 := (me_f (c := 14029) q2 g1 rfl rfl).trans g2
      have f16 : mi_f h' 14016 = mi_f h 14016 := me_f (c := 14016) hF hS rfl rfl
      have f32 : mi_f h' 14032 = mi_f h 14032 := me_f (c := 14032) hF hS rfl rfl
      have f30 : mi_f h' 14030 = mi_f h 14030 - 1 := by omega
      refine nx208 _ _ h' c1 (zp_rest hS0 hG hP z0 hst (Or.inr (Or.inr rfl)) q1 hF rfl (Or.inr (wl_rest hT hI z0 c1 c2 f29 hst (Or.inr (Or.inr rfl)) q1 hF (by decide) ?_ (by rw [f32]; exact hI.1.2.2.2.2.2.2.2.2.1) (by omega))))
      rw [f30, f32]
      exact wk_SI_Z _ _ _ _ w3 (fun i _ => ⟨me_a (k := 168) hF hS rfl rfl, me_a (k := 169) hF hS rfl rfl⟩) (by show mi_f h 14016 ≤ mi_f h' 14016; omega)
    · intro b1 b2 b3 c1 c2 c3 c4 s
      have hP := toI c3 c4
      have hI := hP.1
      have hL : wk_L (mi_a h) Y := wk_L_g hL0 (wk_gc_fr hI.2.1 hS0 rfl)
      have hb29 := hI.2.2.2.2.1
      have htop := hI.2.2.1
      rw [wk_stk_pop c2] at htop
      have hcs := wk_cases htop
      dsimp only at hcs
      refine ⟨by omega, fun h1 g1 g2 g3 => ⟨_, zp_a hS0 hT hL hG hP z0 c1 c2 g1 g2 g3 (by omega) rfl rfl, fun v h' ov hq => ?_⟩⟩
      obtain ⟨rfl, hq⟩ := hq
      exact nx218 _ _ h' c1 hq
    · intro b1 b2 b3 b4 c1 c2 c3 c4 s
      exfalso
      have hP := toI c3 c4
      have hI := hP.1
      have htop := hI.2.2.1
      rw [wk_stk_pop c2] at htop
      have hcs := wk_cases htop
      dsimp only at hcs
      omega
/-- from the begin: nothing is printed yet -/
theorem me_walky {n : Nat} {h : sm_H} (hS : ab_Sh sx_sk h) (hL : wk_L (mi_a h) Y) (hr : wk_Lrule Y (mi_a h 114 0)) (hN : tp_N (mi_a h) (wk_K 2 h) (wk_V 2 h) n) (hn : n ≤ 100) (hG : zp_G Y h N sN LN) (ho : mi_f h 14037 = 0 ∧ mi_f h 14045 = 0 ∧ mi_f h 14046 = 0 ∧ mi_f h 14036 = 0) : me_E (d + 7) 206 0 [some (.inr (.inr 109)), some (.inl (2 : Int)), none, none, none] [] h (zp_End h (zp_f h LN (some ([], 0, 0, 0)))) := by
  have oh : mi_in 2 := ⟨by decide, by decide⟩
  have hT := tp_T (Y := Y) hS hN hn
  refine mt_waA hS oh ?_
  intro h1 g1 f16 f28 f29 f30 f31 f32 f33 f34 f44 g2
  have est : wk_stk h1 = [] := by unfold wk_stk; rw [f29]; rfl
  have en : wk_n 2 h1 = 0 := f33
  have e36 : mi_f h1 14036 = 0 := (me_f (c := 14036) g2 hS rfl rfl).trans ho.2.2.2
  have R1 : oR h1 (some ([], 0, 0, 0)) := Or.inr ⟨_, rfl, f44, (me_f (c := 14037) g2 hS rfl rfl).trans ho.1, fun k hk => absurd hk (Nat.not_lt_zero _), (me_f (c := 14045) g2 hS rfl rfl).trans ho.2.1, (me_f (c := 14046) g2 hS rfl rfl).trans ho.2.2.1, e36⟩
  refine ⟨_, (me_enter (d := d + 4) 2 g1 f28 (by decide) (by decide) (by omega) (by omega) (by omega) (by omega) (fun _ => by omega)).and (me_entero (d := d + 4) (o := ([], 0, 0, 0)) ⟨g1, f28, R1, by omega, by omega, by omega, by omega, by omega, by omega, by omega⟩ (by omega) (by decide) (by decide)), fun v h2 ov hq => ?_⟩
  obtain ⟨⟨rfl, q1, q2, q3, q4⟩, -, -, y1, y2, y3⟩ := hq
  have hF : ab_Fr wr_WK h h2 := (g2.wide (fun c hc => ab_swr_ok (by decide) hc)).trans (q2.wide (fun c hc => ab_swr_ok (by decide) hc))
  refine mt_waB q1 oh ?_
  intro h3 r1 r2
  have e3 := me_nil r2
  subst e3
  refine zp_loop hT hL hS hG oh 40001 0 none none _ (by decide) (by decide) (by decide) (fun v e => by cases e) (fun v e => by cases e) ?_
  rcases q4 with q4 | ⟨q4, q5, q6, q7, q8, q9⟩
  · exfalso
    have := (oR_len y1).1
    omega
  · refine Or.inr ?_
    obtain ⟨v1, v2, v3, v4⟩ := q9
    rw [est] at q8
    have e114 : mi_a h1 114 (Int.toNat 0) = mi_a h 114 0 := me_a (k := 114) g2 hS rfl rfl
    rw [e114] at q8
    have p30 : mi_f h3 14030 = 0 := (me_f (c := 14030) q2 g1 rfl rfl).trans f30
    have p28 : mi_f h3 14028 = 2 := (me_f (c := 14028) q2 g1 rfl rfl).trans f28
    have ul : wk_ul [(1, mi_a h 114 0, 0), (2, 1, 0)] = 1 := by
      rw [wk_ul_c (by decide)]
      rfl
    have n1 : wk_n 2 h3 = 1 := by omega
    refine ⟨⟨⟨q1, p28, Or.inr (Or.inr rfl), q4, by omega, fun e => absurd e (by decide), by omega, by omega, by omega, by rw [q8, ul]; omega, by omega⟩, hF, ?_, ?_, by omega, by omega⟩, (tr_0 (mi_a h)).2, LN, ([], 0, 0, 0), N, ?_, Int.zero_add _, ?_, rfl, y1, y2, by omega⟩
    · obtain ⟨l1, l2, l3⟩ := hr
      have hd := (hL.2.2.2 _ l1 l2).1
      rw [q8, p30, q6, f32]
      refine wk_pform ⟨l1, l2, ?_, by decide, by omega, by decide, by decide⟩ (wk_pout (Or.inr rfl) (by decide) (by decide) (by decide) ?_)
      · show (1 : Int) + _ - 4 ≤ _
        omega
      · unfold wk_SI
        exact ⟨rfl, rfl, by decide⟩
    · unfold tp_I
      rw [q8, n1]
      rfl
    · rw [q8]
      exact hG.1
    · show (1 : Int) = wk_n 2 h3
      omega
end ZPL
/-! print of the reference, exactly -/
section DMG
variable {g g' : wk_g} {V : Int → Int}
theorem dm_sg_g (hg : wk_gc g g') {l u : Int} {r : List wk_E} {s : gm_S} : dm_sg l g' V u r s = dm_sg l g V u r s := by
  unfold dm_sg
  rw [hg 119 (by decide), hg 120 (by decide), hg 115 (by decide), pm_en_g hg]
theorem dm_st_g (hg : wk_gc g g') {l : Int} : dm_st g' V l = dm_st g V l := by
  funext e r s
  unfold dm_st dm_u dm_fo dm_ag
  simp only [dm_sg_g hg, hg 122 (by decide), hg 130 (by decide), hg 126 (by decide), wk_it_g hg, wk_alt_g hg, hg 129 (by decide)]
theorem dv_g (hg : wk_gc g g') : dv g' V = dv g V := by
  funext e s
  unfold dv dv_lf
  simp only [hg 122 (by decide), hg 119 (by decide)]
theorem ofd_g {Lr : Nat → Int} (hg : wk_gc g g') : ∀ (L : List (Int × Int)) (x : Option ox), ofd Lr g' L x = ofd Lr g L x := by
  intro L
  induction L with
  | nil => intro x; rfl
  | cons p L ih =>
    intro x
    show ofd Lr g' L _ = ofd Lr g L _
    rw [ih, hg 119 (by decide), hg 120 (by decide)]
end DMG
theorem zp_G_fr {Y : wk_Y} {h h' : sm_H} {N : Nat} {sN : gm_S} {LN : List (Int × Int)} {wr : List (Nat × Nat)} (hG : zp_G Y h N sN LN) (hS : ab_Sh sx_sk h) (hF : ab_Fr wr h h') (hw : wk_gk.all (fun k => !ab_in wr (k * 128)) = true) (w3 : ab_in wr 20736 = false) (w4 : ab_in wr 14976 = false) (w5 : ab_in wr 15104 = false) : zp_G Y h' N sN LN ∧ ∀ x, zp_f h' LN x = zp_f h LN x := by
  have hg : wk_gc (mi_a h) (mi_a h') := wk_gc_fr hF hS hw
  have ev : yv h' = yv h := funext fun c => by unfold yv; rw [me_b (k := 162) hF hS rfl w3]
  have e4 : ∀ i, mi_a h' 117 i = mi_a h 117 i := fun i => me_a (k := 117) hF hS rfl w4
  have e5 : ∀ i, mx_b h' 118 i = mx_b h 118 i := fun i => me_b (k := 118) hF hS rfl w5
  have eL : tq_L h' = tq_L h := funext fun k => by unfold tq_L; rw [e5, e4]
  have e0 : tr_0 (mi_a h') = tr_0 (mi_a h) := by unfold tr_0; rw [hg 114 (by decide)]
  obtain ⟨k1, k2, k3, k4, k5, k6⟩ := hG
  refine ⟨⟨?_, k2, ?_, k4, fun u u0 u1 => px_W_g hg (k5 u u0 u1), fun u u0 u1 q => ?_⟩, fun x => ?_⟩
  · rw [ev, dm_st_g hg, dv_g hg, e0]
    exact k1
  · rw [ev]
    exact k3
  · rw [hg 119 (by decide)] at q
    rw [hg 120 (by decide), e5, e4]
    exact k6 u u0 u1 q
  · unfold zp_f
    rw [eL, ofd_g hg]
def prx_N : List (Nat × Nat) := [(13952, 13953), (14016, 14017), (14028, 14038), (14044, 14048), (18560, 18561), (20224, 20481), (20864, 20865), (21120, 21761)]
def prx_Y : List (Nat × Nat) := (13955, 13956) :: (14336, 14337) :: prx_N
/-- what print does: nothing to the output, or what the leaves print -/
def prx_X (h : sm_H) (R : Option ox) (w : Option mi_V) (h' : sm_H) : Prop := ab_Sh sx_sk h' ∧ (mi_f h 14015 = 0 → mi_f h' 13952 = 1 ∧ ab_Fr prx_N h h') ∧ (mi_f h 14015 ≠ 0 → (R = none ∧ mi_f h' 13952 = 2 ∧ ab_Fr prx_N h h') ∨ ∃ o, R = some o ∧ mi_f h' 13952 = 0 ∧ w = some (.inl (o.1.length : Int)) ∧ mi_f h' 13955 = (o.1.length : Int) ∧ o.1.length ≤ 160 ∧ (∀ k : Nat, k < o.1.length → o.1[k]? = some (mi_a h' 112 k)) ∧ ab_Fr prx_Y h h')
section PRX2
variable {d : Nat} {h : sm_H}
theorem me_printx {R : Option ox} (hS : ab_Sh sx_sk h) (hY : mi_f h 14015 ≠ 0 → ∃ Y N sN LN n, wk_L (mi_a h) Y ∧ wk_Lrule Y (mi_a h 114 0) ∧ tp_N (mi_a h) (wk_K 2 h) (wk_V 2 h) n ∧ n ≤ 100 ∧ zp_G Y h N sN LN ∧ R = zp_f h LN (some ([], 0, 0, 0))) : me_E (d + 20) 205 0 [some (.inr (.inr 109)), none] [] h (prx_X h R) := by
  refine mt_prA hS ?_ ?_
  · intro b c h2 g1 g2 g3 g4 g5 g6 g7
    obtain ⟨Y, N, sN, LN, n, l1, l2, l3, l4, l5, l6⟩ := hY c
    have hg : wk_gc (mi_a h) (mi_a h2) := wk_gc_fr g7 hS rfl
    obtain ⟨z1, z2⟩ := zp_G_fr l5 hS g7 rfl rfl rfl rfl
    have eK : wk_K 2 h2 = wk_K 2 h := funext fun k => by unfold wk_K; rw [if_pos rfl, if_pos rfl]; exact me_a (k := 155) g7 hS rfl rfl
    have eV : wk_V 2 h2 = wk_V 2 h := funext fun k => by unfold wk_V; rw [if_pos rfl, if_pos rfl, me_b (k := 162) g7 hS rfl rfl]
    have e14 : mi_a h2 114 0 = mi_a h 114 0 := hg 114 (by decide) 0
    have hN2 : tp_N (mi_a h2) (wk_K 2 h2) (wk_V 2 h2) n := by
      rw [eK, eV]
      exact tp_N_g hg l3
    refine ⟨_, me_walky (d := d + 12) (Y := Y) g1 (wk_L_g l1 hg) (by rw [e14]; exact l2) hN2 l4 z1 ⟨g4, g5, g6, g3⟩, fun w h3 ow hq => ?_⟩
    obtain ⟨rfl, q1, q2, q3⟩ := hq
    rw [z2, ← l6] at q3
    have F3 : ab_Fr prx_N h h3 := (g7.wide (fun c hc => ab_swr_ok (by decide) hc)).trans (q2.wide (fun c hc => ab_swr_ok (by decide) hc))
    refine mt_prB q1 ?_ ?_
    · intro b1 c1 h4 r1 r2 r3
      have F4 : ab_Fr prx_Y h h4 := (F3.wide (fun c hc => ab_swr_ok (by decide) hc)).trans (r3.wide (fun c hc => ab_swr_ok (by decide) hc))
      rcases q3 with ⟨-, q3⟩ | ⟨o, q3, q4, o1, o2, -⟩
      · exfalso; omega
      have p37 : mi_f h4 14037 = (o.1.length : Int) := (me_f (c := 14037) r3 q1 rfl rfl).trans o1
      have p170 : ∀ k : Nat, k < o.1.length → o.1[k]? = some (mi_a h4 170 k) := fun k hk => by
        rw [me_a (k := 170) r3 q1 rfl rfl]
        exact o2 k hk
      have b37 := me_fb (c := 14037) r1 rfl
      have cp : ∀ (J : Nat) (zk : Int) (h5 : sm_H), (o.1.length : Int) - zk < J → 0 ≤ zk → zk ≤ (o.1.length : Int) → ab_Sh sx_sk h5 → ab_Fr [(14336, 14337)] h4 h5 → (∀ k : Nat, (k : Int) < zk → mi_a h5 112 k = mi_a h4 170 k) → me_E (d + 20) 205 77 [some (.inr (.inr 109)), some (.inl zk)] [] h5 (prx_X h R) := by
        intro J
        induction J with
        | zero => intro zk h5 hN _ _; exfalso; omega
        | succ J ih =>
          intro zk h5 hN k0 k1 s1 s2 s3
          have s37 : mi_f h5 14037 = (o.1.length : Int) := (me_f (c := 14037) s2 r1 rfl rfl).trans p37
          refine mt_prC s1 ⟨by omega, by omega⟩ ?_ ?_
          · intro b2 c2
            refine ⟨by omega, fun h6 t1 t2 t3 => ⟨t1, fun q => absurd q c, fun _ => Or.inr ⟨o, q3, ?_, by rw [s37], t2.trans s37, by omega, fun k hk => ?_, (F4.trans (s2.wide (fun c hc => ab_swr_ok (by decide) hc))).trans (t3.wide (fun c hc => ab_swr_ok (by decide) hc))⟩⟩⟩
            · rw [me_f (c := 13952) t3 s1 rfl rfl, me_f (c := 13952) s2 r1 rfl rfl]
              exact r2
            · rw [me_a (k := 112) t3 s1 rfl rfl, s3 k (by omega)]
              exact p170 k hk
          · intro b2 c2
            refine ⟨by omega, fun h6 t1 t2 t3 => ?_⟩
            refine ih (zk + 1) h6 (by omega) (by omega) (by omega) t1 (s2.trans t3) (fun k hk => ?_)
            rw [t2]
            by_cases e : k = zk.toNat
            · rw [if_pos e, me_a (k := 170) s2 r1 rfl rfl, e]
            · rw [if_neg e]
              exact s3 k (by omega)
      exact cp 200 0 h4 (by omega) (by decide) (by omega) r1 ab_Fr.refl (fun k hk => by exfalso; omega)
    · intro b1 c1 h4 r1 r2 r3
      rcases q3 with ⟨q3, -⟩ | ⟨o, -, q4, -⟩
      · exact ⟨r1, fun q => absurd q c, fun _ => Or.inl ⟨q3, r2, F3.trans (r3.wide (fun c hc => ab_swr_ok (by decide) hc))⟩⟩
      · exact absurd q4 c1
  · intro b c h1 g1 g2 g3
    exact ⟨g1, fun _ => ⟨g2, g3.wide (fun c hc => ab_swr_ok (by decide) hc)⟩, fun q => absurd c q⟩
end PRX2
/-! segments of the class: Printing, write, separate -/
set_option maxRecDepth 20000 in
theorem mp_a58A_0 (h : sm_H) (d : Nat) (zc : Int) : mj_path [(91, (3, 4, sb_91))] sx_sk h 8 [1, 1] (d, 91, 0, [some (.inr (.inr 58)), some (.inl (zc)), none], [], [], []) = some ((d, 91, 24, [some (.inr (.inr 58)), some (.inl (zc)), some (.inl ((0 : Int)))], [], [], []), [zc < ((32 : Int)), zc ≠ ((10 : Int))]) := rfl
theorem mi_tab_a58A_0 : ∀ e ∈ ([(91, (3, 4, sb_91))] : mi_T), sc_P e.1 = some e.2 := mi_tb mi_P91 (mi_tb_e)
set_option maxRecDepth 20000 in
theorem ms_a58A_0 {h : sm_H} {d : Nat} {Q : Option mi_V → sm_H → Prop} {zc : Int} (hS : ab_Sh sx_sk h) (ok_zc : mi_in zc) (ho : (zc < ((32 : Int))) ∧ (zc ≠ ((10 : Int)))) (kon : ∀ h1, me_W [] h h1 → me_E (d) 91 24 [some (.inr (.inr 58)), some (.inl (zc)), some (.inl ((0 : Int)))] [] h1 Q) : me_E (d) 91 0 [some (.inr (.inr 58)), some (.inl (zc)), none] [] h Q := mf_seg (mp_a58A_0 h d zc) (mi_tab_a58A_0) hS (mi_okL_c (trivial) (mi_okL_c (ok_zc) (mi_okL_n (mi_okL_e)))) (mi_okS_e) (mi_al (ho.1) (mi_al (ho.2) (mi_al_e))) (fun h1 W _ hst => kon h1 W)
set_option maxRecDepth 20000 in
theorem mp_a58A_1 (h : sm_H) (d : Nat) (zc : Int) : mj_path [(91, (3, 4, sb_91))] sx_sk h 9 [1, 0] (d, 91, 0, [some (.inr (.inr 58)), some (.inl (zc)), none], [], [], []) = some ((d, 91, 24, [some (.inr (.inr 58)), some (.inl (zc)), some (.inl ((1 : Int)))], [], [], []), [zc < ((32 : Int)), zc = ((10 : Int))]) := rfl
theorem mi_tab_a58A_1 : ∀ e ∈ ([(91, (3, 4, sb_91))] : mi_T), sc_P e.1 = some e.2 := mi_tb mi_P91 (mi_tb_e)
set_option maxRecDepth 20000 in
theorem ms_a58A_1 {h : sm_H} {d : Nat} {Q : Option mi_V → sm_H → Prop} {zc : Int} (hS : ab_Sh sx_sk h) (ok_zc : mi_in zc) (ho : (zc < ((32 : Int))) ∧ (zc = ((10 : Int)))) (kon : ∀ h1, me_W [] h h1 → me_E (d) 91 24 [some (.inr (.inr 58)), some (.inl (zc)), some (.inl ((1 : Int)))] [] h1 Q) : me_E (d) 91 0 [some (.inr (.inr 58)), some (.inl (zc)), none] [] h Q := mf_seg (mp_a58A_1 h d zc) (mi_tab_a58A_1) hS (mi_okL_c (trivial) (mi_okL_c (ok_zc) (mi_okL_n (mi_okL_e)))) (mi_okS_e) (mi_al (ho.1) (mi_al (ho.2) (mi_al_e))) (fun h1 W _ hst => kon h1 W)
set_option maxRecDepth 20000 in
theorem mp_a58A_2 (h : sm_H) (d : Nat) (zc : Int) : mj_path [(91, (3, 4, sb_91))] sx_sk h 9 [0, 1] (d, 91, 0, [some (.inr (.inr 58)), some (.inl (zc)), none], [], [], []) = some ((d, 91, 24, [some (.inr (.inr 58)), some (.inl (zc)), some (.inl ((1 : Int)))], [], [], []), [((32 : Int)) ≤ zc, zc ≤ ((126 : Int))]) := rfl
theorem mi_tab_a58A_2 : ∀ e ∈ ([(91, (3, 4, sb_91))] : mi_T), sc_P e.1 = some e.2 := mi_tb mi_P91 (mi_tb_e)
set_option maxRecDepth 20000 in
theorem ms_a58A_2 {h : sm_H} {d : Nat} {Q : Option mi_V → sm_H → Prop} {zc : Int} (hS : ab_Sh sx_sk h) (ok_zc : mi_in zc) (ho : (((32 : Int)) ≤ zc) ∧ (zc ≤ ((126 : Int)))) (kon : ∀ h1, me_W [] h h1 → me_E (d) 91 24 [some (.inr (.inr 58)), some (.inl (zc)), some (.inl ((1 : Int)))] [] h1 Q) : me_E (d) 91 0 [some (.inr (.inr 58)), some (.inl (zc)), none] [] h Q := mf_seg (mp_a58A_2 h d zc) (mi_tab_a58A_2) hS (mi_okL_c (trivial) (mi_okL_c (ok_zc) (mi_okL_n (mi_okL_e)))) (mi_okS_e) (mi_al (ho.1) (mi_al (ho.2) (mi_al_e))) (fun h1 W _ hst => kon h1 W)
set_option maxRecDepth 20000 in
theorem mp_a58A_3 (h : sm_H) (d : Nat) (zc : Int) : mj_path [(91, (3, 4, sb_91))] sx_sk h 11 [0, 0, 1] (d, 91, 0, [some (.inr (.inr 58)), some (.inl (zc)), none], [], [], []) = some ((d, 91, 24, [some (.inr (.inr 58)), some (.inl (zc)), some (.inl ((0 : Int)))], [], [], []), [((32 : Int)) ≤ zc, ((126 : Int)) < zc, zc ≠ ((10 : Int))]) := rfl
theorem mi_tab_a58A_3 : ∀ e ∈ ([(91, (3, 4, sb_91))] : mi_T), sc_P e.1 = some e.2 := mi_tb mi_P91 (mi_tb_e)
set_option maxRecDepth 20000 in
theorem ms_a58A_3 {h : sm_H} {d : Nat} {Q : Option mi_V → sm_H → Prop} {zc : Int} (hS : ab_Sh sx_sk h) (ok_zc : mi_in zc) (ho : (((32 : Int)) ≤ zc) ∧ (((126 : Int)) < zc) ∧ (zc ≠ ((10 : Int)))) (kon : ∀ h1, me_W [] h h1 → me_E (d) 91 24 [some (.inr (.inr 58)), some (.inl (zc)), some (.inl ((0 : Int)))] [] h1 Q) : me_E (d) 91 0 [some (.inr (.inr 58)), some (.inl (zc)), none] [] h Q := mf_seg (mp_a58A_3 h d zc) (mi_tab_a58A_3) hS (mi_okL_c (trivial) (mi_okL_c (ok_zc) (mi_okL_n (mi_okL_e)))) (mi_okS_e) (mi_al (ho.1) (mi_al (ho.2.1) (mi_al (ho.2.2) (mi_al_e)))) (fun h1 W _ hst => kon h1 W)
set_option maxRecDepth 20000 in
theorem mp_a58A_4 (h : sm_H) (d : Nat) (zc : Int) : mj_path [(91, (3, 4, sb_91))] sx_sk h 12 [0, 0, 0] (d, 91, 0, [some (.inr (.inr 58)), some (.inl (zc)), none], [], [], []) = some ((d, 91, 24, [some (.inr (.inr 58)), some (.inl (zc)), some (.inl ((1 : Int)))], [], [], []), [((32 : Int)) ≤ zc, ((126 : Int)) < zc, zc = ((10 : Int))]) := rfl
theorem mi_tab_a58A_4 : ∀ e ∈ ([(91, (3, 4, sb_91))] : mi_T), sc_P e.1 = some e.2 := mi_tb mi_P91 (mi_tb_e)
set_option maxRecDepth 20000 in
theorem ms_a58A_4 {h : sm_H} {d : Nat} {Q : Option mi_V → sm_H → Prop} {zc : Int} (hS : ab_Sh sx_sk h) (ok_zc : mi_in zc) (ho : (((32 : Int)) ≤ zc) ∧ (((126 : Int)) < zc) ∧ (zc = ((10 : Int)))) (kon : ∀ h1, me_W [] h h1 → me_E (d) 91 24 [some (.inr (.inr 58)), some (.inl (zc)), some (.inl ((1 : Int)))] [] h1 Q) : me_E (d) 91 0 [some (.inr (.inr 58)), some (.inl (zc)), none] [] h Q := mf_seg (mp_a58A_4 h d zc) (mi_tab_a58A_4) hS (mi_okL_c (trivial) (mi_okL_c (ok_zc) (mi_okL_n (mi_okL_e)))) (mi_okS_e) (mi_al (ho.1) (mi_al (ho.2.1) (mi_al (ho.2.2) (mi_al_e)))) (fun h1 W _ hst => kon h1 W)
set_option maxRecDepth 20000 in
theorem mt_a58A {h : sm_H} {d : Nat} {Q : Option mi_V → sm_H → Prop} {zc : Int} (hS : ab_Sh sx_sk h) (ok_zc : mi_in zc) (k0 : (zc < ((32 : Int))) → (zc ≠ ((10 : Int))) → (∀ h1, ab_Sh sx_sk h1 → ab_Fr [] h h1 → me_E (d) 91 24 [some (.inr (.inr 58)), some (.inl (zc)), some (.inl ((0 : Int)))] [] h1 Q)) (k1 : (zc < ((32 : Int))) → (zc = ((10 : Int))) → (∀ h1, ab_Sh sx_sk h1 → ab_Fr [] h h1 → me_E (d) 91 24 [some (.inr (.inr 58)), some (.inl (zc)), some (.inl ((1 : Int)))] [] h1 Q)) (k2 : (((32 : Int)) ≤ zc) → (zc ≤ ((126 : Int))) → (∀ h1, ab_Sh sx_sk h1 → ab_Fr [] h h1 → me_E (d) 91 24 [some (.inr (.inr 58)), some (.inl (zc)), some (.inl ((1 : Int)))] [] h1 Q)) (k3 : (((32 : Int)) ≤ zc) → (((126 : Int)) < zc) → (zc ≠ ((10 : Int))) → (∀ h1, ab_Sh sx_sk h1 → ab_Fr [] h h1 → me_E (d) 91 24 [some (.inr (.inr 58)), some (.inl (zc)), some (.inl ((0 : Int)))] [] h1 Q)) (k4 : (((32 : Int)) ≤ zc) → (((126 : Int)) < zc) → (zc = ((10 : Int))) → (∀ h1, ab_Sh sx_sk h1 → ab_Fr [] h h1 → me_E (d) 91 24 [some (.inr (.inr 58)), some (.inl (zc)), some (.inl ((1 : Int)))] [] h1 Q)) : me_E (d) 91 0 [some (.inr (.inr 58)), some (.inl (zc)), none] [] h Q := Or.elim (mi_em .lt (zc) (((32 : Int)))) (fun c0 => Or.elim (mi_em .ne (zc) (((10 : Int)))) (fun c1 => ms_a58A_0 hS ok_zc ⟨c0, c1⟩ (fun h1 W => (k0 c0 c1) h1 W.1 (W.2.2.2.2.2 _ rfl))) (fun c1 => ms_a58A_1 hS ok_zc ⟨c0, c1⟩ (fun h1 W => (k1 c0 c1) h1 W.1 (W.2.2.2.2.2 _ rfl)))) (fun c0 => Or.elim (mi_em .le (zc) (((126 : Int)))) (fun c1 => ms_a58A_2 hS ok_zc ⟨c0, c1⟩ (fun h1 W => (k2 c0 c1) h1 W.1 (W.2.2.2.2.2 _ rfl))) (fun c1 => Or.elim (mi_em .ne (zc) (((10 : Int)))) (fun c2 => ms_a58A_3 hS ok_zc ⟨c0, c1, c2⟩ (fun h1 W => (k3 c0 c1 c2) h1 W.1 (W.2.2.2.2.2 _ rfl))) (fun c2 => ms_a58A_4 hS ok_zc ⟨c0, c1, c2⟩ (fun h1 W => (k4 c0 c1 c2) h1 W.1 (W.2.2.2.2.2 _ rfl)))))
set_option maxRecDepth 20000 in
theorem mp_a58B_0 (h : sm_H) (d : Nat) (zc zl : Int) : mj_path [(91, (3, 4, sb_91))] sx_sk h 3 [1] (d, 91, 24, [some (.inr (.inr 58)), some (.inl (zc)), some (.inl (zl))], [], [], []) = some ((d, 91, 48, [some (.inr (.inr 58)), some (.inl (zc)), some (.inl (zl))], [.inl ((0 : Int))], [], []), [zl = ((0 : Int))]) := rfl
theorem mi_tab_a58B_0 : ∀ e ∈ ([(91, (3, 4, sb_91))] : mi_T), sc_P e.1 = some e.2 := mi_tb mi_P91 (mi_tb_e)
set_option maxRecDepth 20000 in
theorem ms_a58B_0 {h : sm_H} {d : Nat} {Q : Option mi_V → sm_H → Prop} {zc zl : Int} (hS : ab_Sh sx_sk h) (ok_zc : mi_in zc) (ok_zl : mi_in zl) (ho : (zl = ((0 : Int))) ∧ (((0 : Int)) = 0 ∨ ((0 : Int)) = 1)) (kon : ∀ h1, me_W [] h h1 → Q (some (.inl ((0 : Int)))) h1) : me_E (d) 91 24 [some (.inr (.inr 58)), some (.inl (zc)), some (.inl (zl))] [] h Q := mf_seg (mp_a58B_0 h d zc zl) (mi_tab_a58B_0) hS (mi_okL_c (trivial) (mi_okL_c (ok_zc) (mi_okL_c (ok_zl) (mi_okL_e)))) (mi_okS_e) (mi_al (ho.1) (mi_al_e)) (fun h1 W _ hst => mf_ret (M := (3, 4, sb_91)) rfl rfl rfl hst (mi_al (ho.2) mi_al_e) (kon h1 W))
set_option maxRecDepth 20000 in
theorem mp_a58B_1 (h : sm_H) (d : Nat) (zc zl : Int) : mj_path [(91, (3, 4, sb_91))] sx_sk h 6 [0, 1] (d, 91, 24, [some (.inr (.inr 58)), some (.inl (zc)), some (.inl (zl))], [], [], []) = some ((d, 91, 48, [some (.inr (.inr 58)), some (.inl (zc)), some (.inl (zl))], [.inl ((0 : Int))], [], []), [zl ≠ ((0 : Int)), (mi_f h 7425) < ((0 : Int))]) := rfl
theorem mi_tab_a58B_1 : ∀ e ∈ ([(91, (3, 4, sb_91))] : mi_T), sc_P e.1 = some e.2 := mi_tb mi_P91 (mi_tb_e)
set_option maxRecDepth 20000 in
theorem ms_a58B_1 {h : sm_H} {d : Nat} {Q : Option mi_V → sm_H → Prop} {zc zl : Int} (hS : ab_Sh sx_sk h) (ok_zc : mi_in zc) (ok_zl : mi_in zl) (ho : (zl ≠ ((0 : Int))) ∧ ((mi_f h 7425) < ((0 : Int))) ∧ (((0 : Int)) = 0 ∨ ((0 : Int)) = 1)) (kon : ∀ h1, me_W [] h h1 → Q (some (.inl ((0 : Int)))) h1) : me_E (d) 91 24 [some (.inr (.inr 58)), some (.inl (zc)), some (.inl (zl))] [] h Q := mf_seg (mp_a58B_1 h d zc zl) (mi_tab_a58B_1) hS (mi_okL_c (trivial) (mi_okL_c (ok_zc) (mi_okL_c (ok_zl) (mi_okL_e)))) (mi_okS_e) (mi_al (ho.1) (mi_al (ho.2.1) (mi_al_e))) (fun h1 W _ hst => mf_ret (M := (3, 4, sb_91)) rfl rfl rfl hst (mi_al (ho.2.2) mi_al_e) (kon h1 W))
set_option maxRecDepth 20000 in
theorem mp_a58B_2 (h : sm_H) (d : Nat) (zc zl : Int) : mj_path [(91, (3, 4, sb_91))] sx_sk h 16 [0, 0, 1] (d, 91, 24, [some (.inr (.inr 58)), some (.inl (zc)), some (.inl (zl))], [], [], []) = some ((d, 91, 58, [some (.inr (.inr 58)), some (.inl (zc)), some (.inl (zl))], [.inl (zc), .inl (mi_f h 7425), .inr (.inr 59)], [], []), [zl ≠ ((0 : Int)), ((0 : Int)) ≤ (mi_f h 7425), (mi_f h 7425) < ((160 : Int))]) := rfl
theorem mi_tab_a58B_2 : ∀ e ∈ ([(91, (3, 4, sb_91))] : mi_T), sc_P e.1 = some e.2 := mi_tb mi_P91 (mi_tb_e)
set_option maxRecDepth 20000 in
theorem ms_a58B_2 {h : sm_H} {d : Nat} {Q : Option mi_V → sm_H → Prop} {zc zl : Int} (hS : ab_Sh sx_sk h) (ok_zc : mi_in zc) (ok_zl : mi_in zl) (ho : (zl ≠ ((0 : Int))) ∧ (((0 : Int)) ≤ (mi_f h 7425)) ∧ ((mi_f h 7425) < ((160 : Int)))) (kon : ∀ h1, me_W [] h h1 → me_E (d) 91 58 [some (.inr (.inr 58)), some (.inl (zc)), some (.inl (zl))] [.inl (zc), .inl (mi_f h 7425), .inr (.inr 59)] h1 Q) : me_E (d) 91 24 [some (.inr (.inr 58)), some (.inl (zc)), some (.inl (zl))] [] h Q := mf_seg (mp_a58B_2 h d zc zl) (mi_tab_a58B_2) hS (mi_okL_c (trivial) (mi_okL_c (ok_zc) (mi_okL_c (ok_zl) (mi_okL_e)))) (mi_okS_e) (mi_al (ho.1) (mi_al (ho.2.1) (mi_al (ho.2.2) (mi_al_e)))) (fun h1 W _ hst => kon h1 W)
set_option maxRecDepth 20000 in
theorem mp_a58B_3 (h : sm_H) (d : Nat) (zc zl : Int) : mj_path [(91, (3, 4, sb_91))] sx_sk h 12 [0, 0, 0] (d, 91, 24, [some (.inr (.inr 58)), some (.inl (zc)), some (.inl (zl))], [], [], []) = some ((d, 91, 48, [some (.inr (.inr 58)), some (.inl (zc)), some (.inl (zl))], [.inl ((0 : Int))], [], []), [zl ≠ ((0 : Int)), ((0 : Int)) ≤ (mi_f h 7425), ((160 : Int)) ≤ (mi_f h 7425)]) := rfl
theorem mi_tab_a58B_3 : ∀ e ∈ ([(91, (3, 4, sb_91))] : mi_T), sc_P e.1 = some e.2 := mi_tb mi_P91 (mi_tb_e)
set_option maxRecDepth 20000 in
theorem ms_a58B_3 {h : sm_H} {d : Nat} {Q : Option mi_V → sm_H → Prop} {zc zl : Int} (hS : ab_Sh sx_sk h) (ok_zc : mi_in zc) (ok_zl : mi_in zl) (ho : (zl ≠ ((0 : Int))) ∧ (((0 : Int)) ≤ (mi_f h 7425)) ∧ (((160 : Int)) ≤ (mi_f h 7425)) ∧ (((0 : Int)) = 0 ∨ ((0 : Int)) = 1)) (kon : ∀ h1, me_W [] h h1 → Q (some (.inl ((0 : Int)))) h1) : me_E (d) 91 24 [some (.inr (.inr 58)), some (.inl (zc)), some (.inl (zl))] [] h Q := mf_seg (mp_a58B_3 h d zc zl) (mi_tab_a58B_3) hS (mi_okL_c (trivial) (mi_okL_c (ok_zc) (mi_okL_c (ok_zl) (mi_okL_e)))) (mi_okS_e) (mi_al (ho.1) (mi_al (ho.2.1) (mi_al (ho.2.2.1) (mi_al_e)))) (fun h1 W _ hst => mf_ret (M := (3, 4, sb_91)) rfl rfl rfl hst (mi_al (ho.2.2.2) mi_al_e) (kon h1 W))
set_option maxRecDepth 20000 in
theorem mt_a58B {h : sm_H} {d : Nat} {Q : Option mi_V → sm_H → Prop} {zc zl : Int} (hS : ab_Sh sx_sk h) (ok_zc : mi_in zc) (ok_zl : mi_in zl) (k0 : (zl = ((0 : Int))) → (∀ h1, ab_Sh sx_sk h1 → ab_Fr [] h h1 → Q (some (.inl ((0 : Int)))) h1)) (k1 : (0 ≤ mi_f h 7425 ∧ mi_f h 7425 ≤ 160) → (zl ≠ ((0 : Int))) → ((mi_f h 7425) < ((0 : Int))) → (∀ h1, ab_Sh sx_sk h1 → ab_Fr [] h h1 → Q (some (.inl ((0 : Int)))) h1)) (k2 : (0 ≤ mi_f h 7425 ∧ mi_f h 7425 ≤ 160) → (zl ≠ ((0 : Int))) → (((0 : Int)) ≤ (mi_f h 7425)) → ((mi_f h 7425) < ((160 : Int))) → (∀ h1, ab_Sh sx_sk h1 → ab_Fr [] h h1 → me_E (d) 91 58 [some (.inr (.inr 58)), some (.inl (zc)), some (.inl (zl))] [.inl (zc), .inl (mi_f h 7425), .inr (.inr 59)] h1 Q)) (k3 : (0 ≤ mi_f h 7425 ∧ mi_f h 7425 ≤ 160) → (zl ≠ ((0 : Int))) → (((0 : Int)) ≤ (mi_f h 7425)) → (((160 : Int)) ≤ (mi_f h 7425)) → (∀ h1, ab_Sh sx_sk h1 → ab_Fr [] h h1 → Q (some (.inl ((0 : Int)))) h1)) : me_E (d) 91 24 [some (.inr (.inr 58)), some (.inl (zc)), some (.inl (zl))] [] h Q := Or.elim (mi_em .eq (zl) (((0 : Int)))) (fun c0 => ms_a58B_0 hS ok_zc ok_zl ⟨c0, (by decide)⟩ (fun h1 W => (k0 c0) h1 W.1 (W.2.2.2.2.2 _ rfl))) (fun c0 => Or.elim (mi_em .lt ((mi_f h 7425)) (((0 : Int)))) (fun c1 => ms_a58B_1 hS ok_zc ok_zl ⟨c0, c1, (by decide)⟩ (fun h1 W => (k1 (me_fb hS rfl) c0 c1) h1 W.1 (W.2.2.2.2.2 _ rfl))) (fun c1 => Or.elim (mi_em .lt ((mi_f h 7425)) (((160 : Int)))) (fun c2 => ms_a58B_2 hS ok_zc ok_zl ⟨c0, c1, c2⟩ (fun h1 W => (k2 (me_fb hS rfl) c0 c1 c2) h1 W.1 (W.2.2.2.2.2 _ rfl))) (fun c2 => ms_a58B_3 hS ok_zc ok_zl ⟨c0, c1, c2, (by decide)⟩ (fun h1 W => (k3 (me_fb hS rfl) c0 c1 c2) h1 W.1 (W.2.2.2.2.2 _ rfl)))))
set_option maxRecDepth 20000 in
theorem mp_a58C_0 (h : sm_H) (d : Nat) (zc zl : Int) : mj_path [(91, (3, 4, sb_91))] sx_sk h 7 [8] (d, 91, 59, [some (.inr (.inr 58)), some (.inl (zc)), some (.inl (zl))], [], [], []) = some ((d, 91, 70, [some (.inr (.inr 58)), some (.inl (zc)), some (.inl (zl))], [.inl ((1 : Int))], [.inl (7425, (mi_f h 7425) + ((1 : Int)))], []), [-2147483648 ≤ (mi_f h 7425) + ((1 : Int)) ∧ (mi_f h 7425) + ((1 : Int)) ≤ 2147483647, 0 ≤ ((mi_f h 7425) + ((1 : Int))) ∧ ((mi_f h 7425) + ((1 : Int))) ≤ 160]) := rfl
theorem mi_tab_a58C_0 : ∀ e ∈ ([(91, (3, 4, sb_91))] : mi_T), sc_P e.1 = some e.2 := mi_tb mi_P91 (mi_tb_e)
set_option maxRecDepth 20000 in
theorem ms_a58C_0 {h : sm_H} {d : Nat} {Q : Option mi_V → sm_H → Prop} {zc zl : Int} (hS : ab_Sh sx_sk h) (ok_zc : mi_in zc) (ok_zl : mi_in zl) (ho : (-2147483648 ≤ (mi_f h 7425) + ((1 : Int)) ∧ (mi_f h 7425) + ((1 : Int)) ≤ 2147483647) ∧ (0 ≤ ((mi_f h 7425) + ((1 : Int))) ∧ ((mi_f h 7425) + ((1 : Int))) ≤ 160) ∧ (((1 : Int)) = 0 ∨ ((1 : Int)) = 1)) (kon : ∀ h1, me_W [.inl (7425, (mi_f h 7425) + ((1 : Int)))] h h1 → Q (some (.inl ((1 : Int)))) h1) : me_E (d) 91 59 [some (.inr (.inr 58)), some (.inl (zc)), some (.inl (zl))] [] h Q := mf_seg (mp_a58C_0 h d zc zl) (mi_tab_a58C_0) hS (mi_okL_c (trivial) (mi_okL_c (ok_zc) (mi_okL_c (ok_zl) (mi_okL_e)))) (mi_okS_e) (mi_al (ho.1) (mi_al (ho.2.1) (mi_al_e))) (fun h1 W _ hst => mf_ret (M := (3, 4, sb_91)) rfl rfl rfl hst (mi_al (ho.2.2) mi_al_e) (kon h1 W))
set_option maxRecDepth 20000 in
theorem mt_a58C {h : sm_H} {d : Nat} {Q : Option mi_V → sm_H → Prop} {zc zl : Int} (hS : ab_Sh sx_sk h) (ok_zc : mi_in zc) (ok_zl : mi_in zl) (k0 : (0 ≤ mi_f h 7425 ∧ mi_f h 7425 ≤ 160) → ((-2147483648 ≤ (mi_f h 7425) + ((1 : Int)) ∧ (mi_f h 7425) + ((1 : Int)) ≤ 2147483647) ∧ (0 ≤ ((mi_f h 7425) + ((1 : Int))) ∧ ((mi_f h 7425) + ((1 : Int))) ≤ 160)) ∧ (∀ h1, ab_Sh sx_sk h1 → mi_f h1 7425 = (mi_f h 7425) + ((1 : Int)) → ab_Fr [(7425, 7426)] h h1 → Q (some (.inl ((1 : Int)))) h1)) : me_E (d) 91 59 [some (.inr (.inr 58)), some (.inl (zc)), some (.inl (zl))] [] h Q := ms_a58C_0 hS ok_zc ok_zl ⟨(k0 (me_fb hS rfl)).1.1, (k0 (me_fb hS rfl)).1.2, (by decide)⟩ (fun h1 W => (k0 (me_fb hS rfl)).2 h1 W.1 (W.2.1 7425) (W.2.2.2.2.2 _ rfl))
set_option maxRecDepth 20000 in
theorem mp_a56A_0 (h : sm_H) (d : Nat) (zc : Int) : mj_path [(91, (3, 4, sb_91))] sx_sk h 8 [1, 1] (d, 91, 0, [some (.inr (.inr 56)), some (.inl (zc)), none], [], [], []) = some ((d, 91, 24, [some (.inr (.inr 56)), some (.inl (zc)), some (.inl ((0 : Int)))], [], [], []), [zc < ((32 : Int)), zc ≠ ((10 : Int))]) := rfl
theorem mi_tab_a56A_0 : ∀ e ∈ ([(91, (3, 4, sb_91))] : mi_T), sc_P e.1 = some e.2 := mi_tb mi_P91 (mi_tb_e)
set_option maxRecDepth 20000 in
theorem ms_a56A_0 {h : sm_H} {d : Nat} {Q : Option mi_V → sm_H → Prop} {zc : Int} (hS : ab_Sh sx_sk h) (ok_zc : mi_in zc) (ho : (zc < ((32 : Int))) ∧ (zc ≠ ((10 : Int)))) (kon : ∀ h1, me_W [] h h1 → me_E (d) 91 24 [some (.inr (.inr 56)), some (.inl (zc)), some (.inl ((0 : Int)))] [] h1 Q) : me_E (d) 91 0 [some (.inr (.inr 56)), some (.inl (zc)), none] [] h Q := mf_seg (mp_a56A_0 h d zc) (mi_tab_a56A_0) hS (mi_okL_c (trivial) (mi_okL_c (ok_zc) (mi_okL_n (mi_okL_e)))) (mi_okS_e) (mi_al (ho.1) (mi_al (ho.2) (mi_al_e))) (fun h1 W _ hst => kon h1 W)
set_option maxRecDepth 20000 in
theorem mp_a56A_1 (h : sm_H) (d : Nat) (zc : Int) : mj_path [(91, (3, 4, sb_91))] sx_sk h 9 [1, 0] (d, 91, 0, [some (.inr (.inr 56)), some (.inl (zc)), none], [], [], []) = some ((d, 91, 24, [some (.inr (.inr 56)), some (.inl (zc)), some (.inl ((1 : Int)))], [], [], []), [zc < ((32 : Int)), zc = ((10 : Int))]) := rfl
theorem mi_tab_a56A_1 : ∀ e ∈ ([(91, (3, 4, sb_91))] : mi_T), sc_P e.1 = some e.2 := mi_tb mi_P91 (mi_tb_e)
set_option maxRecDepth 20000 in
theorem ms_a56A_1 {h : sm_H} {d : Nat} {Q : Option mi_V → sm_H → Prop} {zc : Int} (hS : ab_Sh sx_sk h) (ok_zc : mi_in zc) (ho : (zc < ((32 : Int))) ∧ (zc = ((10 : Int)))) (kon : ∀ h1, me_W [] h h1 → me_E (d) 91 24 [some (.inr (.inr 56)), some (.inl (zc)), some (.inl ((1 : Int)))] [] h1 Q) : me_E (d) 91 0 [some (.inr (.inr 56)), some (.inl (zc)), none] [] h Q := mf_seg (mp_a56A_1 h d zc) (mi_tab_a56A_1) hS (mi_okL_c (trivial) (mi_okL_c (ok_zc) (mi_okL_n (mi_okL_e)))) (mi_okS_e) (mi_al (ho.1) (mi_al (ho.2) (mi_al_e))) (fun h1 W _ hst => kon h1 W)
set_option maxRecDepth 20000 in
theorem mp_a56A_2 (h : sm_H) (d : Nat) (zc : Int) : mj_path [(91, (3, 4, sb_91))] sx_sk h 9 [0, 1] (d, 91, 0, [some (.inr (.inr 56)), some (.inl (zc)), none], [], [], []) = some ((d, 91, 24, [some (.inr (.inr 56)), some (.inl (zc)), some (.inl ((1 : Int)))], [], [], []), [((32 : Int)) ≤ zc, zc ≤ ((126 : Int))]) := rfl
theorem mi_tab_a56A_2 : ∀ e ∈ ([(91, (3, 4, sb_91))] : mi_T), sc_P e.1 = some e.2 := mi_tb mi_P91 (mi_tb_e)
set_option maxRecDepth 20000 in
theorem ms_a56A_2 {h : sm_H} {d : Nat} {Q : Option mi_V → sm_H → Prop} {zc : Int} (hS : ab_Sh sx_sk h) (ok_zc : mi_in zc) (ho : (((32 : Int)) ≤ zc) ∧ (zc ≤ ((126 : Int)))) (kon : ∀ h1, me_W [] h h1 → me_E (d) 91 24 [some (.inr (.inr 56)), some (.inl (zc)), some (.inl ((1 : Int)))] [] h1 Q) : me_E (d) 91 0 [some (.inr (.inr 56)), some (.inl (zc)), none] [] h Q := mf_seg (mp_a56A_2 h d zc) (mi_tab_a56A_2) hS (mi_okL_c (trivial) (mi_okL_c (ok_zc) (mi_okL_n (mi_okL_e)))) (mi_okS_e) (mi_al (ho.1) (mi_al (ho.2) (mi_al_e))) (fun h1 W _ hst => kon h1 W)
set_option maxRecDepth 20000 in
theorem mp_a56A_3 (h : sm_H) (d : Nat) (zc : Int) : mj_path [(91, (3, 4, sb_91))] sx_sk h 11 [0, 0, 1] (d, 91, 0, [some (.inr (.inr 56)), some (.inl (zc)), none], [], [], []) = some ((d, 91, 24, [some (.inr (.inr 56)), some (.inl (zc)), some (.inl ((0 : Int)))], [], [], []), [((32 : Int)) ≤ zc, ((126 : Int)) < zc, zc ≠ ((10 : Int))]) := rfl
theorem mi_tab_a56A_3 : ∀ e ∈ ([(91, (3, 4, sb_91))] : mi_T), sc_P e.1 = some e.2 := mi_tb mi_P91 (mi_tb_e)
set_option maxRecDepth 20000 in
theorem ms_a56A_3 {h : sm_H} {d : Nat} {Q : Option mi_V → sm_H → Prop} {zc : Int} (hS : ab_Sh sx_sk h) (ok_zc : mi_in zc) (ho : (((32 : Int)) ≤ zc) ∧ (((126 : Int)) < zc) ∧ (zc ≠ ((10 : Int)))) (kon : ∀ h1, me_W [] h h1 → me_E (d) 91 24 [some (.inr (.inr 56)), some (.inl (zc)), some (.inl ((0 : Int)))] [] h1 Q) : me_E (d) 91 0 [some (.inr (.inr 56)), some (.inl (zc)), none] [] h Q := mf_seg (mp_a56A_3 h d zc) (mi_tab_a56A_3) hS (mi_okL_c (trivial) (mi_okL_c (ok_zc) (mi_okL_n (mi_okL_e)))) (mi_okS_e) (mi_al (ho.1) (mi_al (ho.2.1) (mi_al (ho.2.2) (mi_al_e)))) (fun h1 W _ hst => kon h1 W)
set_option maxRecDepth 20000 in
theorem mp_a56A_4 (h : sm_H) (d : Nat) (zc : Int) : mj_path [(91, (3, 4, sb_91))] sx_sk h 12 [0, 0, 0] (d, 91, 0, [some (.inr (.inr 56)), some (.inl (zc)), none], [], [], []) = some ((d, 91, 24, [some (.inr (.inr 56)), some (.inl (zc)), some (.inl ((1 : Int)))], [], [], []), [((32 : Int)) ≤ zc, ((126 : Int)) < zc, zc = ((10 : Int))]) := rfl
theorem mi_tab_a56A_4 : ∀ e ∈ ([(91, (3, 4, sb_91))] : mi_T), sc_P e.1 = some e.2 := mi_tb mi_P91 (mi_tb_e)
set_option maxRecDepth 20000 in
theorem ms_a56A_4 {h : sm_H} {d : Nat} {Q : Option mi_V → sm_H → Prop} {zc : Int} (hS : ab_Sh sx_sk h) (ok_zc : mi_in zc) (ho : (((32 : Int)) ≤ zc) ∧ (((126 : Int)) < zc) ∧ (zc = ((10 : Int)))) (kon : ∀ h1, me_W [] h h1 → me_E (d) 91 24 [some (.inr (.inr 56)), some (.inl (zc)), some (.inl ((1 : Int)))] [] h1 Q) : me_E (d) 91 0 [some (.inr (.inr 56)), some (.inl (zc)), none] [] h Q := mf_seg (mp_a56A_4 h d zc) (mi_tab_a56A_4) hS (mi_okL_c (trivial) (mi_okL_c (ok_zc) (mi_okL_n (mi_okL_e)))) (mi_okS_e) (mi_al (ho.1) (mi_al (ho.2.1) (mi_al (ho.2.2) (mi_al_e)))) (fun h1 W _ hst => kon h1 W)
set_option maxRecDepth 20000 in
theorem mt_a56A {h : sm_H} {d : Nat} {Q : Option mi_V → sm_H → Prop} {zc : Int} (hS : ab_Sh sx_sk h) (ok_zc : mi_in zc) (k0 : (zc < ((32 : Int))) → (zc ≠ ((10 : Int))) → (∀ h1, ab_Sh sx_sk h1 → ab_Fr [] h h1 → me_E (d) 91 24 [some (.inr (.inr 56)), some (.inl (zc)), some (.inl ((0 : Int)))] [] h1 Q)) (k1 : (zc < ((32 : Int))) → (zc = ((10 : Int))) → (∀ h1, ab_Sh sx_sk h1 → ab_Fr [] h h1 → me_E (d) 91 24 [some (.inr (.inr 56)), some (.inl (zc)), some (.inl ((1 : Int)))] [] h1 Q)) (k2 : (((32 : Int)) ≤ zc) → (zc ≤ ((126 : Int))) → (∀ h1, ab_Sh sx_sk h1 → ab_Fr [] h h1 → me_E (d) 91 24 [some (.inr (.inr 56)), some (.inl (zc)), some (.inl ((1 : Int)))] [] h1 Q)) (k3 : (((32 : Int)) ≤ zc) → (((126 : Int)) < zc) → (zc ≠ ((10 : Int))) → (∀ h1, ab_Sh sx_sk h1 → ab_Fr [] h h1 → me_E (d) 91 24 [some (.inr (.inr 56)), some (.inl (zc)), some (.inl ((0 : Int)))] [] h1 Q)) (k4 : (((32 : Int)) ≤ zc) → (((126 : Int)) < zc) → (zc = ((10 : Int))) → (∀ h1, ab_Sh sx_sk h1 → ab_Fr [] h h1 → me_E (d) 91 24 [some (.inr (.inr 56)), some (.inl (zc)), some (.inl ((1 : Int)))] [] h1 Q)) : me_E (d) 91 0 [some (.inr (.inr 56)), some (.inl (zc)), none] [] h Q := Or.elim (mi_em .lt (zc) (((32 : Int)))) (fun c0 => Or.elim (mi_em .ne (zc) (((10 : Int)))) (fun c1 => ms_a56A_0 hS ok_zc ⟨c0, c1⟩ (fun h1 W => (k0 c0 c1) h1 W.1 (W.2.2.2.2.2 _ rfl))) (fun c1 => ms_a56A_1 hS ok_zc ⟨c0, c1⟩ (fun h1 W => (k1 c0 c1) h1 W.1 (W.2.2.2.2.2 _ rfl)))) (fun c0 => Or.elim (mi_em .le (zc) (((126 : Int)))) (fun c1 => ms_a56A_2 hS ok_zc ⟨c0, c1⟩ (fun h1 W => (k2 c0 c1) h1 W.1 (W.2.2.2.2.2 _ rfl))) (fun c1 => Or.elim (mi_em .ne (zc) (((10 : Int)))) (fun c2 => ms_a56A_3 hS ok_zc ⟨c0, c1, c2⟩ (fun h1 W => (k3 c0 c1 c2) h1 W.1 (W.2.2.2.2.2 _ rfl))) (fun c2 => ms_a56A_4 hS ok_zc ⟨c0, c1, c2⟩ (fun h1 W => (k4 c0 c1 c2) h1 W.1 (W.2.2.2.2.2 _ rfl)))))
set_option maxRecDepth 20000 in
theorem mp_a56B_0 (h : sm_H) (d : Nat) (zc zl : Int) : mj_path [(91, (3, 4, sb_91))] sx_sk h 3 [1] (d, 91, 24, [some (.inr (.inr 56)), some (.inl (zc)), some (.inl (zl))], [], [], []) = some ((d, 91, 48, [some (.inr (.inr 56)), some (.inl (zc)), some (.inl (zl))], [.inl ((0 : Int))], [], []), [zl = ((0 : Int))]) := rfl
theorem mi_tab_a56B_0 : ∀ e ∈ ([(91, (3, 4, sb_91))] : mi_T), sc_P e.1 = some e.2 := mi_tb mi_P91 (mi_tb_e)
set_option maxRecDepth 20000 in
theorem ms_a56B_0 {h : sm_H} {d : Nat} {Q : Option mi_V → sm_H → Prop} {zc zl : Int} (hS : ab_Sh sx_sk h) (ok_zc : mi_in zc) (ok_zl : mi_in zl) (ho : (zl = ((0 : Int))) ∧ (((0 : Int)) = 0 ∨ ((0 : Int)) = 1)) (kon : ∀ h1, me_W [] h h1 → Q (some (.inl ((0 : Int)))) h1) : me_E (d) 91 24 [some (.inr (.inr 56)), some (.inl (zc)), some (.inl (zl))] [] h Q := mf_seg (mp_a56B_0 h d zc zl) (mi_tab_a56B_0) hS (mi_okL_c (trivial) (mi_okL_c (ok_zc) (mi_okL_c (ok_zl) (mi_okL_e)))) (mi_okS_e) (mi_al (ho.1) (mi_al_e)) (fun h1 W _ hst => mf_ret (M := (3, 4, sb_91)) rfl rfl rfl hst (mi_al (ho.2) mi_al_e) (kon h1 W))
set_option maxRecDepth 20000 in
theorem mp_a56B_1 (h : sm_H) (d : Nat) (zc zl : Int) : mj_path [(91, (3, 4, sb_91))] sx_sk h 6 [0, 1] (d, 91, 24, [some (.inr (.inr 56)), some (.inl (zc)), some (.inl (zl))], [], [], []) = some ((d, 91, 48, [some (.inr (.inr 56)), some (.inl (zc)), some (.inl (zl))], [.inl ((0 : Int))], [], []), [zl ≠ ((0 : Int)), (mi_f h 7169) < ((0 : Int))]) := rfl
theorem mi_tab_a56B_1 : ∀ e ∈ ([(91, (3, 4, sb_91))] : mi_T), sc_P e.1 = some e.2 := mi_tb mi_P91 (mi_tb_e)
set_option maxRecDepth 20000 in
theorem ms_a56B_1 {h : sm_H} {d : Nat} {Q : Option mi_V → sm_H → Prop} {zc zl : Int} (hS : ab_Sh sx_sk h) (ok_zc : mi_in zc) (ok_zl : mi_in zl) (ho : (zl ≠ ((0 : Int))) ∧ ((mi_f h 7169) < ((0 : Int))) ∧ (((0 : Int)) = 0 ∨ ((0 : Int)) = 1)) (kon : ∀ h1, me_W [] h h1 → Q (some (.inl ((0 : Int)))) h1) : me_E (d) 91 24 [some (.inr (.inr 56)), some (.inl (zc)), some (.inl (zl))] [] h Q := mf_seg (mp_a56B_1 h d zc zl) (mi_tab_a56B_1) hS (mi_okL_c (trivial) (mi_okL_c (ok_zc) (mi_okL_c (ok_zl) (mi_okL_e)))) (mi_okS_e) (mi_al (ho.1) (mi_al (ho.2.1) (mi_al_e))) (fun h1 W _ hst => mf_ret (M := (3, 4, sb_91)) rfl rfl rfl hst (mi_al (ho.2.2) mi_al_e) (kon h1 W))
set_option maxRecDepth 20000 in
theorem mp_a56B_2 (h : sm_H) (d : Nat) (zc zl : Int) : mj_path [(91, (3, 4, sb_91))] sx_sk h 16 [0, 0, 1] (d, 91, 24, [some (.inr (.inr 56)), some (.inl (zc)), some (.inl (zl))], [], [], []) = some ((d, 91, 58, [some (.inr (.inr 56)), some (.inl (zc)), some (.inl (zl))], [.inl (zc), .inl (mi_f h 7169), .inr (.inr 57)], [], []), [zl ≠ ((0 : Int)), ((0 : Int)) ≤ (mi_f h 7169), (mi_f h 7169) < ((160 : Int))]) := rfl
theorem mi_tab_a56B_2 : ∀ e ∈ ([(91, (3, 4, sb_91))] : mi_T), sc_P e.1 = some e.2 := mi_tb mi_P91 (mi_tb_e)
set_option maxRecDepth 20000 in
theorem ms_a56B_2 {h : sm_H} {d : Nat} {Q : Option mi_V → sm_H → Prop} {zc zl : Int} (hS : ab_Sh sx_sk h) (ok_zc : mi_in zc) (ok_zl : mi_in zl) (ho : (zl ≠ ((0 : Int))) ∧ (((0 : Int)) ≤ (mi_f h 7169)) ∧ ((mi_f h 7169) < ((160 : Int)))) (kon : ∀ h1, me_W [] h h1 → me_E (d) 91 58 [some (.inr (.inr 56)), some (.inl (zc)), some (.inl (zl))] [.inl (zc), .inl (mi_f h 7169), .inr (.inr 57)] h1 Q) : me_E (d) 91 24 [some (.inr (.inr 56)), some (.inl (zc)), some (.inl (zl))] [] h Q := mf_seg (mp_a56B_2 h d zc zl) (mi_tab_a56B_2) hS (mi_okL_c (trivial) (mi_okL_c (ok_zc) (mi_okL_c (ok_zl) (mi_okL_e)))) (mi_okS_e) (mi_al (ho.1) (mi_al (ho.2.1) (mi_al (ho.2.2) (mi_al_e)))) (fun h1 W _ hst => kon h1 W)
set_option maxRecDepth 20000 in
theorem mp_a56B_3 (h : sm_H) (d : Nat) (zc zl : Int) : mj_path [(91, (3, 4, sb_91))] sx_sk h 12 [0, 0, 0] (d, 91, 24, [some (.inr (.inr 56)), some (.inl (zc)), some (.inl (zl))], [], [], []) = some ((d, 91, 48, [some (.inr (.inr 56)), some (.inl (zc)), some (.inl (zl))], [.inl ((0 : Int))], [], []), [zl ≠ ((0 : Int)), ((0 : Int)) ≤ (mi_f h 7169), ((160 : Int)) ≤ (mi_f h 7169)]) := rfl
theorem mi_tab_a56B_3 : ∀ e ∈ ([(91, (3, 4, sb_91))] : mi_T), sc_P e.1 = some e.2 := mi_tb mi_P91 (mi_tb_e)
set_option maxRecDepth 20000 in
theorem ms_a56B_3 {h : sm_H} {d : Nat} {Q : Option mi_V → sm_H → Prop} {zc zl : Int} (hS : ab_Sh sx_sk h) (ok_zc : mi_in zc) (ok_zl : mi_in zl) (ho : (zl ≠ ((0 : Int))) ∧ (((0 : Int)) ≤ (mi_f h 7169)) ∧ (((160 : Int)) ≤ (mi_f h 7169)) ∧ (((0 : Int)) = 0 ∨ ((0 : Int)) = 1)) (kon : ∀ h1, me_W [] h h1 → Q (some (.inl ((0 : Int)))) h1) : me_E (d) 91 24 [some (.inr (.inr 56)), some (.inl (zc)), some (.inl (zl))] [] h Q := mf_seg (mp_a56B_3 h d zc zl) (mi_tab_a56B_3) hS (mi_okL_c (trivial) (mi_okL_c (ok_zc) (mi_okL_c (ok_zl) (mi_okL_e)))) (mi_okS_e) (mi_al (ho.1) (mi_al (ho.2.1) (mi_al (ho.2.2.1) (mi_al_e)))) (fun h1 W _ hst => mf_ret (M := (3, 4, sb_91)) rfl rfl rfl hst (mi_al (ho.2.2.2) mi_al_e) (kon h1 W))
set_option maxRecDepth 20000 in
theorem mt_a56B {h : sm_H} {d : Nat} {Q : Option mi_V → sm_H → Prop} {zc zl : Int} (hS : ab_Sh sx_sk h) (ok_zc : mi_in zc) (ok_zl : mi_in zl) (k0 : (zl = ((0 : Int))) → (∀ h1, ab_Sh sx_sk h1 → ab_Fr [] h h1 → Q (some (.inl ((0 : Int)))) h1)) (k1 : (0 ≤ mi_f h 7169 ∧ mi_f h 7169 ≤ 160) → (zl ≠ ((0 : Int))) → ((mi_f h 7169) < ((0 : Int))) → (∀ h1, ab_Sh sx_sk h1 → ab_Fr [] h h1 → Q (some (.inl ((0 : Int)))) h1)) (k2 : (0 ≤ mi_f h 7169 ∧ mi_f h 7169 ≤ 160) → (zl ≠ ((0 : Int))) → (((0 : Int)) ≤ (mi_f h 7169)) → ((mi_f h 7169) < ((160 : Int))) → (∀ h1, ab_Sh sx_sk h1 → ab_Fr [] h h1 → me_E (d) 91 58 [some (.inr (.inr 56)), some (.inl (zc)), some (.inl (zl))] [.inl (zc), .inl (mi_f h 7169), .inr (.inr 57)] h1 Q)) (k3 : (0 ≤ mi_f h 7169 ∧ mi_f h 7169 ≤ 160) → (zl ≠ ((0 : Int))) → (((0 : Int)) ≤ (mi_f h 7169)) → (((160 : Int)) ≤ (mi_f h 7169)) → (∀ h1, ab_Sh sx_sk h1 → ab_Fr [] h h1 → Q (some (.inl ((0 : Int)))) h1)) : me_E (d) 91 24 [some (.inr (.inr 56)), some (.inl (zc)), some (.inl (zl))] [] h Q := Or.elim (mi_em .eq (zl) (((0 : Int)))) (fun c0 => ms_a56B_0 hS ok_zc ok_zl ⟨c0, (by decide)⟩ (fun h1 W => (k0 c0) h1 W.1 (W.2.2.2.2.2 _ rfl))) (fun c0 => Or.elim (mi_em .lt ((mi_f h 7169)) (((0 : Int)))) (fun c1 => ms_a56B_1 hS ok_zc ok_zl ⟨c0, c1, (by decide)⟩ (fun h1 W => (k1 (me_fb hS rfl) c0 c1) h1 W.1 (W.2.2.2.2.2 _ rfl))) (fun c1 => Or.elim (mi_em .lt ((mi_f h 7169)) (((160 : Int)))) (fun c2 => ms_a56B_2 hS ok_zc ok_zl ⟨c0, c1, c2⟩ (fun h1 W => (k2 (me_fb hS rfl) c0 c1 c2) h1 W.1 (W.2.2.2.2.2 _ rfl))) (fun c2 => ms_a56B_3 hS ok_zc ok_zl ⟨c0, c1, c2, (by decide)⟩ (fun h1 W => (k3 (me_fb hS rfl) c0 c1 c2) h1 W.1 (W.2.2.2.2.2 _ rfl)))))
set_option maxRecDepth 20000 in
theorem mp_a56C_0 (h : sm_H) (d : Nat) (zc zl : Int) : mj_path [(91, (3, 4, sb_91))] sx_sk h 7 [8] (d, 91, 59, [some (.inr (.inr 56)), some (.inl (zc)), some (.inl (zl))], [], [], []) = some ((d, 91, 70, [some (.inr (.inr 56)), some (.inl (zc)), some (.inl (zl))], [.inl ((1 : Int))], [.inl (7169, (mi_f h 7169) + ((1 : Int)))], []), [-2147483648 ≤ (mi_f h 7169) + ((1 : Int)) ∧ (mi_f h 7169) + ((1 : Int)) ≤ 2147483647, 0 ≤ ((mi_f h 7169) + ((1 : Int))) ∧ ((mi_f h 7169) + ((1 : Int))) ≤ 160]) := rfl
theorem mi_tab_a56C_0 : ∀ e ∈ ([(91, (3, 4, sb_91))] : mi_T), sc_P e.1 = some e.2 := mi_tb mi_P91 (mi_tb_e)
set_option maxRecDepth 20000 in
theorem ms_a56C_0 {h : sm_H} {d : Nat} {Q : Option mi_V → sm_H → Prop} {zc zl : Int} (hS : ab_Sh sx_sk h) (ok_zc : mi_in zc) (ok_zl : mi_in zl) (ho : (-2147483648 ≤ (mi_f h 7169) + ((1 : Int)) ∧ (mi_f h 7169) + ((1 : Int)) ≤ 2147483647) ∧ (0 ≤ ((mi_f h 7169) + ((1 : Int))) ∧ ((mi_f h 7169) + ((1 : Int))) ≤ 160) ∧ (((1 : Int)) = 0 ∨ ((1 : Int)) = 1)) (kon : ∀ h1, me_W [.inl (7169, (mi_f h 7169) + ((1 : Int)))] h h1 → Q (some (.inl ((1 : Int)))) h1) : me_E (d) 91 59 [some (.inr (.inr 56)), some (.inl (zc)), some (.inl (zl))] [] h Q := mf_seg (mp_a56C_0 h d zc zl) (mi_tab_a56C_0) hS (mi_okL_c (trivial) (mi_okL_c (ok_zc) (mi_okL_c (ok_zl) (mi_okL_e)))) (mi_okS_e) (mi_al (ho.1) (mi_al (ho.2.1) (mi_al_e))) (fun h1 W _ hst => mf_ret (M := (3, 4, sb_91)) rfl rfl rfl hst (mi_al (ho.2.2) mi_al_e) (kon h1 W))
set_option maxRecDepth 20000 in
theorem mt_a56C {h : sm_H} {d : Nat} {Q : Option mi_V → sm_H → Prop} {zc zl : Int} (hS : ab_Sh sx_sk h) (ok_zc : mi_in zc) (ok_zl : mi_in zl) (k0 : (0 ≤ mi_f h 7169 ∧ mi_f h 7169 ≤ 160) → ((-2147483648 ≤ (mi_f h 7169) + ((1 : Int)) ∧ (mi_f h 7169) + ((1 : Int)) ≤ 2147483647) ∧ (0 ≤ ((mi_f h 7169) + ((1 : Int))) ∧ ((mi_f h 7169) + ((1 : Int))) ≤ 160)) ∧ (∀ h1, ab_Sh sx_sk h1 → mi_f h1 7169 = (mi_f h 7169) + ((1 : Int)) → ab_Fr [(7169, 7170)] h h1 → Q (some (.inl ((1 : Int)))) h1)) : me_E (d) 91 59 [some (.inr (.inr 56)), some (.inl (zc)), some (.inl (zl))] [] h Q := ms_a56C_0 hS ok_zc ok_zl ⟨(k0 (me_fb hS rfl)).1.1, (k0 (me_fb hS rfl)).1.2, (by decide)⟩ (fun h1 W => (k0 (me_fb hS rfl)).2 h1 W.1 (W.2.1 7169) (W.2.2.2.2.2 _ rfl))
set_option maxRecDepth 20000 in
theorem mp_a54A_0 (h : sm_H) (d : Nat) (zc : Int) : mj_path [(91, (3, 4, sb_91))] sx_sk h 8 [1, 1] (d, 91, 0, [some (.inr (.inr 54)), some (.inl (zc)), none], [], [], []) = some ((d, 91, 24, [some (.inr (.inr 54)), some (.inl (zc)), some (.inl ((0 : Int)))], [], [], []), [zc < ((32 : Int)), zc ≠ ((10 : Int))]) := rfl
theorem mi_tab_a54A_0 : ∀ e ∈ ([(91, (3, 4, sb_91))] : mi_T), sc_P e.1 = some e.2 := mi_tb mi_P91 (mi_tb_e)
set_option maxRecDepth 20000 in
theorem ms_a54A_0 {h : sm_H} {d : Nat} {Q : Option mi_V → sm_H → Prop} {zc : Int} (hS : ab_Sh sx_sk h) (ok_zc : mi_in zc) (ho : (zc < ((32 : Int))) ∧ (zc ≠ ((10 : Int)))) (kon : ∀ h1, me_W [] h h1 → me_E (d) 91 24 [some (.inr (.inr 54)), some (.inl (zc)), some (.inl ((0 : Int)))] [] h1 Q) : me_E (d) 91 0 [some (.inr (.inr 54)), some (.inl (zc)), none] [] h Q := mf_seg (mp_a54A_0 h d zc) (mi_tab_a54A_0) hS (mi_okL_c (trivial) (mi_okL_c (ok_zc) (mi_okL_n (mi_okL_e)))) (mi_okS_e) (mi_al (ho.1) (mi_al (ho.2) (mi_al_e))) (fun h1 W _ hst => kon h1 W)
set_option maxRecDepth 20000 in
theorem mp_a54A_1 (h : sm_H) (d : Nat) (zc : Int) : mj_path [(91, (3, 4, sb_91))] sx_sk h 9 [1, 0] (d, 91, 0, [some (.inr (.inr 54)), some (.inl (zc)), none], [], [], []) = some ((d, 91, 24, [some (.inr (.inr 54)), some (.inl (zc)), some (.inl ((1 : Int)))], [], [], []), [zc < ((32 : Int)), zc = ((10 : Int))]) := rfl
theorem mi_tab_a54A_1 : ∀ e ∈ ([(91, (3, 4, sb_91))] : mi_T), sc_P e.1 = some e.2 := mi_tb mi_P91 (mi_tb_e)
set_option maxRecDepth 20000 in
theorem ms_a54A_1 {h : sm_H} {d : Nat} {Q : Option mi_V → sm_H → Prop} {zc : Int} (hS : ab_Sh sx_sk h) (ok_zc : mi_in zc) (ho : (zc < ((32 : Int))) ∧ (zc = ((10 : Int)))) (kon : ∀ h1, me_W [] h h1 → me_E (d) 91 24 [some (.inr (.inr 54)), some (.inl (zc)), some (.inl ((1 : Int)))] [] h1 Q) : me_E (d) 91 0 [some (.inr (.inr 54)), some (.inl (zc)), none] [] h Q := mf_seg (mp_a54A_1 h d zc) (mi_tab_a54A_1) hS (mi_okL_c (trivial) (mi_okL_c (ok_zc) (mi_okL_n (mi_okL_e)))) (mi_okS_e) (mi_al (ho.1) (mi_al (ho.2) (mi_al_e))) (fun h1 W _ hst => kon h1 W)
set_option maxRecDepth 20000 in
theorem mp_a54A_2 (h : sm_H) (d : Nat) (zc : Int) : mj_path [(91, (3, 4, sb_91))] sx_sk h 9 [0, 1] (d, 91, 0, [some (.inr (.inr 54)), some (.inl (zc)), none], [], [], []) = some ((d, 91, 24, [some (.inr (.inr 54)), some (.inl (zc)), some (.inl ((1 : Int)))], [], [], []), [((32 : Int)) ≤ zc, zc ≤ ((126 : Int))]) := rfl
theorem mi_tab_a54A_2 : ∀ e ∈ ([(91, (3, 4, sb_91))] : mi_T), sc_P e.1 = some e.2 := mi_tb mi_P91 (mi_tb_e)
set_option maxRecDepth 20000 in
theorem ms_a54A_2 {h : sm_H} {d : Nat} {Q : Option mi_V → sm_H → Prop} {zc : Int} (hS : ab_Sh sx_sk h) (ok_zc : mi_in zc) (ho : (((32 : Int)) ≤ zc) ∧ (zc ≤ ((126 : Int)))) (kon : ∀ h1, me_W [] h h1 → me_E (d) 91 24 [some (.inr (.inr 54)), some (.inl (zc)), some (.inl ((1 : Int)))] [] h1 Q) : me_E (d) 91 0 [some (.inr (.inr 54)), some (.inl (zc)), none] [] h Q := mf_seg (mp_a54A_2 h d zc) (mi_tab_a54A_2) hS (mi_okL_c (trivial) (mi_okL_c (ok_zc) (mi_okL_n (mi_okL_e)))) (mi_okS_e) (mi_al (ho.1) (mi_al (ho.2) (mi_al_e))) (fun h1 W _ hst => kon h1 W)
set_option maxRecDepth 20000 in
theorem mp_a54A_3 (h : sm_H) (d : Nat) (zc : Int) : mj_path [(91, (3, 4, sb_91))] sx_sk h 11 [0, 0, 1] (d, 91, 0, [some (.inr (.inr 54)), some (.inl (zc)), none], [], [], []) = some ((d, 91, 24, [some (.inr (.inr 54)), some (.inl (zc)), some (.inl ((0 : Int)))], [], [], []), [((32 : Int)) ≤ zc, ((126 : Int)) < zc, zc ≠ ((10 : Int))]) := rfl
theorem mi_tab_a54A_3 : ∀ e ∈ ([(91, (3, 4, sb_91))] : mi_T), sc_P e.1 = some e.2 := mi_tb mi_P91 (mi_tb_e)
set_option maxRecDepth 20000 in
theorem ms_a54A_3 {h : sm_H} {d : Nat} {Q : Option mi_V → sm_H → Prop} {zc : Int} (hS : ab_Sh sx_sk h) (ok_zc : mi_in zc) (ho : (((32 : Int)) ≤ zc) ∧ (((126 : Int)) < zc) ∧ (zc ≠ ((10 : Int)))) (kon : ∀ h1, me_W [] h h1 → me_E (d) 91 24 [some (.inr (.inr 54)), some (.inl (zc)), some (.inl ((0 : Int)))] [] h1 Q) : me_E (d) 91 0 [some (.inr (.inr 54)), some (.inl (zc)), none] [] h Q := mf_seg (mp_a54A_3 h d zc) (mi_tab_a54A_3) hS (mi_okL_c (trivial) (mi_okL_c (ok_zc) (mi_okL_n (mi_okL_e)))) (mi_okS_e) (mi_al (ho.1) (mi_al (ho.2.1) (mi_al (ho.2.2) (mi_al_e)))) (fun h1 W _ hst => kon h1 W)
set_option maxRecDepth 20000 in
theorem mp_a54A_4 (h : sm_H) (d : Nat) (zc : Int) : mj_path [(91, (3, 4, sb_91))] sx_sk h 12 [0, 0, 0] (d, 91, 0, [some (.inr (.inr 54)), some (.inl (zc)), none], [], [], []) = some ((d, 91, 24, [some (.inr (.inr 54)), some (.inl (zc)), some (.inl ((1 : Int)))], [], [], []), [((32 : Int)) ≤ zc, ((126 : Int)) < zc, zc = ((10 : Int))]) := rfl
theorem mi_tab_a54A_4 : ∀ e ∈ ([(91, (3, 4, sb_91))] : mi_T), sc_P e.1 = some e.2 := mi_tb mi_P91 (mi_tb_e)
set_option maxRecDepth 20000 in
theorem ms_a54A_4 {h : sm_H} {d : Nat} {Q : Option mi_V → sm_H → Prop} {zc : Int} (hS : ab_Sh sx_sk h) (ok_zc : mi_in zc) (ho : (((32 : Int)) ≤ zc) ∧ (((126 : Int)) < zc) ∧ (zc = ((10 : Int)))) (kon : ∀ h1, me_W [] h h1 → me_E (d) 91 24 [some (.inr (.inr 54)), some (.inl (zc)), some (.inl ((1 : Int)))] [] h1 Q) : me_E (d) 91 0 [some (.inr (.inr 54)), some (.inl (zc)), none] [] h Q := mf_seg (mp_a54A_4 h d zc) (mi_tab_a54A_4) hS (mi_okL_c (trivial) (mi_okL_c (ok_zc) (mi_okL_n (mi_okL_e)))) (mi_okS_e) (mi_al (ho.1) (mi_al (ho.2.1) (mi_al (ho.2.2) (mi_al_e)))) (fun h1 W _ hst => kon h1 W)
set_option maxRecDepth 20000 in
theorem mt_a54A {h : sm_H} {d : Nat} {Q : Option mi_V → sm_H → Prop} {zc : Int} (hS : ab_Sh sx_sk h) (ok_zc : mi_in zc) (k0 : (zc < ((32 : Int))) → (zc ≠ ((10 : Int))) → (∀ h1, ab_Sh sx_sk h1 → ab_Fr [] h h1 → me_E (d) 91 24 [some (.inr (.inr 54)), some (.inl (zc)), some (.inl ((0 : Int)))] [] h1 Q)) (k1 : (zc < ((32 : Int))) → (zc = ((10 : Int))) → (∀ h1, ab_Sh sx_sk h1 → ab_Fr [] h h1 → me_E (d) 91 24 [some (.inr (.inr 54)), some (.inl (zc)), some (.inl ((1 : Int)))] [] h1 Q)) (k2 : (((32 : Int)) ≤ zc) → (zc ≤ ((126 : Int))) → (∀ h1, ab_Sh sx_sk h1 → ab_Fr [] h h1 → me_E (d) 91 24 [some (.inr (.inr 54)), some (.inl (zc)), some (.inl ((1 : Int)))] [] h1 Q)) (k3 : (((32 : Int)) ≤ zc) → (((126 : Int)) < zc) → (zc ≠ ((10 : Int))) → (∀ h1, ab_Sh sx_sk h1 → ab_Fr [] h h1 → me_E (d) 91 24 [some (.inr (.inr 54)), some (.inl (zc)), some (.inl ((0 : Int)))] [] h1 Q)) (k4 : (((32 : Int)) ≤ zc) → (((126 : Int)) < zc) → (zc = ((10 : Int))) → (∀ h1, ab_Sh sx_sk h1 → ab_Fr [] h h1 → me_E (d) 91 24 [some (.inr (.inr 54)), some (.inl (zc)), some (.inl ((1 : Int)))] [] h1 Q)) : me_E (d) 91 0 [some (.inr (.inr 54)), some (.inl (zc)), none] [] h Q := Or.elim (mi_em .lt (zc) (((32 : Int)))) (fun c0 => Or.elim (mi_em .ne (zc) (((10 : Int)))) (fun c1 => ms_a54A_0 hS ok_zc ⟨c0, c1⟩ (fun h1 W => (k0 c0 c1) h1 W.1 (W.2.2.2.2.2 _ rfl))) (fun c1 => ms_a54A_1 hS ok_zc ⟨c0, c1⟩ (fun h1 W => (k1 c0 c1) h1 W.1 (W.2.2.2.2.2 _ rfl)))) (fun c0 => Or.elim (mi_em .le (zc) (((126 : Int)))) (fun c1 => ms_a54A_2 hS ok_zc ⟨c0, c1⟩ (fun h1 W => (k2 c0 c1) h1 W.1 (W.2.2.2.2.2 _ rfl))) (fun c1 => Or.elim (mi_em .ne (zc) (((10 : Int)))) (fun c2 => ms_a54A_3 hS ok_zc ⟨c0, c1, c2⟩ (fun h1 W => (k3 c0 c1 c2) h1 W.1 (W.2.2.2.2.2 _ rfl))) (fun c2 => ms_a54A_4 hS ok_zc ⟨c0, c1, c2⟩ (fun h1 W => (k4 c0 c1 c2) h1 W.1 (W.2.2.2.2.2 _ rfl)))))
set_option maxRecDepth 20000 in
theorem mp_a54B_0 (h : sm_H) (d : Nat) (zc zl : Int) : mj_path [(91, (3, 4, sb_91))] sx_sk h 3 [1] (d, 91, 24, [some (.inr (.inr 54)), some (.inl (zc)), some (.inl (zl))], [], [], []) = some ((d, 91, 48, [some (.inr (.inr 54)), some (.inl (zc)), some (.inl (zl))], [.inl ((0 : Int))], [], []), [zl = ((0 : Int))]) := rfl
theorem mi_tab_a54B_0 : ∀ e ∈ ([(91, (3, 4, sb_91))] : mi_T), sc_P e.1 = some e.2 := mi_tb mi_P91 (mi_tb_e)
set_option maxRecDepth 20000 in
theorem ms_a54B_0 {h : sm_H} {d : Nat} {Q : Option mi_V → sm_H → Prop} {zc zl : Int} (hS : ab_Sh sx_sk h) (ok_zc : mi_in zc) (ok_zl : mi_in zl) (ho : (zl = ((0 : Int))) ∧ (((0 : Int)) = 0 ∨ ((0 : Int)) = 1)) (kon : ∀ h1, me_W [] h h1 → Q (some (.inl ((0 : Int)))) h1) : me_E (d) 91 24 [some (.inr (.inr 54)), some (.inl (zc)), some (.inl (zl))] [] h Q := mf_seg (mp_a54B_0 h d zc zl) (mi_tab_a54B_0) hS (mi_okL_c (trivial) (mi_okL_c (ok_zc) (mi_okL_c (ok_zl) (mi_okL_e)))) (mi_okS_e) (mi_al (ho.1) (mi_al_e)) (fun h1 W _ hst => mf_ret (M := (3, 4, sb_91)) rfl rfl rfl hst (mi_al (ho.2) mi_al_e) (kon h1 W))
set_option maxRecDepth 20000 in
theorem mp_a54B_1 (h : sm_H) (d : Nat) (zc zl : Int) : mj_path [(91, (3, 4, sb_91))] sx_sk h 6 [0, 1] (d, 91, 24, [some (.inr (.inr 54)), some (.inl (zc)), some (.inl (zl))], [], [], []) = some ((d, 91, 48, [some (.inr (.inr 54)), some (.inl (zc)), some (.inl (zl))], [.inl ((0 : Int))], [], []), [zl ≠ ((0 : Int)), (mi_f h 6913) < ((0 : Int))]) := rfl
theorem mi_tab_a54B_1 : ∀ e ∈ ([(91, (3, 4, sb_91))] : mi_T), sc_P e.1 = some e.2 := mi_tb mi_P91 (mi_tb_e)
set_option maxRecDepth 20000 in
theorem ms_a54B_1 {h : sm_H} {d : Nat} {Q : Option mi_V → sm_H → Prop} {zc zl : Int} (hS : ab_Sh sx_sk h) (ok_zc : mi_in zc) (ok_zl : mi_in zl) (ho : (zl ≠ ((0 : Int))) ∧ ((mi_f h 6913) < ((0 : Int))) ∧ (((0 : Int)) = 0 ∨ ((0 : Int)) = 1)) (kon : ∀ h1, me_W [] h h1 → Q (some (.inl ((0 : Int)))) h1) : me_E (d) 91 24 [some (.inr (.inr 54)), some (.inl (zc)), some (.inl (zl))] [] h Q := mf_seg (mp_a54B_1 h d zc zl) (mi_tab_a54B_1) hS (mi_okL_c (trivial) (mi_okL_c (ok_zc) (mi_okL_c (ok_zl) (mi_okL_e)))) (mi_okS_e) (mi_al (ho.1) (mi_al (ho.2.1) (mi_al_e))) (fun h1 W _ hst => mf_ret (M := (3, 4, sb_91)) rfl rfl rfl hst (mi_al (ho.2.2) mi_al_e) (kon h1 W))
set_option maxRecDepth 20000 in
theorem mp_a54B_2 (h : sm_H) (d : Nat) (zc zl : Int) : mj_path [(91, (3, 4, sb_91))] sx_sk h 16 [0, 0, 1] (d, 91, 24, [some (.inr (.inr 54)), some (.inl (zc)), some (.inl (zl))], [], [], []) = some ((d, 91, 58, [some (.inr (.inr 54)), some (.inl (zc)), some (.inl (zl))], [.inl (zc), .inl (mi_f h 6913), .inr (.inr 55)], [], []), [zl ≠ ((0 : Int)), ((0 : Int)) ≤ (mi_f h 6913), (mi_f h 6913) < ((160 : Int))]) := rfl
theorem mi_tab_a54B_2 : ∀ e ∈ ([(91, (3, 4, sb_91))] : mi_T), sc_P e.1 = some e.2 := mi_tb mi_P91 (mi_tb_e)
set_option maxRecDepth 20000 in
theorem ms_a54B_2 {h : sm_H} {d : Nat} {Q : Option mi_V → sm_H → Prop} {zc zl : Int} (hS : ab_Sh sx_sk h) (ok_zc : mi_in zc) (ok_zl : mi_in zl) (ho : (zl ≠ ((0 : Int))) ∧ (((0 : Int)) ≤ (mi_f h 6913)) ∧ ((mi_f h 6913) < ((160 : Int)))) (kon : ∀ h1, me_W [] h h1 → me_E (d) 91 58 [some (.inr (.inr 54)), some (.inl (zc)), some (.inl (zl))] [.inl (zc), .inl (mi_f h 6913), .inr (.inr 55)] h1 Q) : me_E (d) 91 24 [some (.inr (.inr 54)), some (.inl (zc)), some (.inl (zl))] [] h Q := mf_seg (mp_a54B_2 h d zc zl) (mi_tab_a54B_2) hS (mi_okL_c (trivial) (mi_okL_c (ok_zc) (mi_okL_c (ok_zl) (mi_okL_e)))) (mi_okS_e) (mi_al (ho.1) (mi_al (ho.2.1) (mi_al (ho.2.2) (mi_al_e)))) (fun h1 W _ hst => kon h1 W)
set_option maxRecDepth 20000 in
theorem mp_a54B_3 (h : sm_H) (d : Nat) (zc zl : Int) : mj_path [(91, (3, 4, sb_91))] sx_sk h 12 [0, 0, 0] (d, 91, 24, [some (.inr (.inr 54)), some (.inl (zc)), some (.inl (zl))], [], [], []) = some ((d, 91, 48, [some (.inr (.inr 54)), some (.inl (zc)), some (.inl (zl))], [.inl ((0 : Int))], [], []), [zl ≠ ((0 : Int)), ((0 : Int)) ≤ (mi_f h 6913), ((160 : Int)) ≤ (mi_f h 6913)]) := rfl
theorem mi_tab_a54B_3 : ∀ e ∈ ([(91, (3, 4, sb_91))] : mi_T), sc_P e.1 = some e.2 := mi_tb mi_P91 (mi_tb_e)
set_option maxRecDepth 20000 in
theorem ms_a54B_3 {h : sm_H} {d : Nat} {Q : Option mi_V → sm_H → Prop} {zc zl : Int} (hS : ab_Sh sx_sk h) (ok_zc : mi_in zc) (ok_zl : mi_in zl) (ho : (zl ≠ ((0 : Int))) ∧ (((0 : Int)) ≤ (mi_f h 6913)) ∧ (((160 : Int)) ≤ (mi_f h 6913)) ∧ (((0 : Int)) = 0 ∨ ((0 : Int)) = 1)) (kon : ∀ h1, me_W [] h h1 → Q (some (.inl ((0 : Int)))) h1) : me_E (d) 91 24 [some (.inr (.inr 54)), some (.inl (zc)), some (.inl (zl))] [] h Q := mf_seg (mp_a54B_3 h d zc zl) (mi_tab_a54B_3) hS (mi_okL_c (trivial) (mi_okL_c (ok_zc) (mi_okL_c (ok_zl) (mi_okL_e)))) (mi_okS_e) (mi_al (ho.1) (mi_al (ho.2.1) (mi_al (ho.2.2.1) (mi_al_e)))) (fun h1 W _ hst => mf_ret (M := (3, 4, sb_91)) rfl rfl rfl hst (mi_al (ho.2.2.2) mi_al_e) (kon h1 W))
set_option maxRecDepth 20000 in
theorem mt_a54B {h : sm_H} {d : Nat} {Q : Option mi_V → sm_H → Prop} {zc zl : Int} (hS : ab_Sh sx_sk h) (ok_zc : mi_in zc) (ok_zl : mi_in zl) (k0 : (zl = ((0 : Int))) → (∀ h1, ab_Sh sx_sk h1 → ab_Fr [] h h1 → Q (some (.inl ((0 : Int)))) h1)) (k1 : (0 ≤ mi_f h 6913 ∧ mi_f h 6913 ≤ 160) → (zl ≠ ((0 : Int))) → ((mi_f h 6913) < ((0 : Int))) → (∀ h1, ab_Sh sx_sk h1 → ab_Fr [] h h1 → Q (some (.inl ((0 : Int)))) h1)) (k2 : (0 ≤ mi_f h 6913 ∧ mi_f h 6913 ≤ 160) → (zl ≠ ((0 : Int))) → (((0 : Int)) ≤ (mi_f h 6913)) → ((mi_f h 6913) < ((160 : Int))) → (∀ h1, ab_Sh sx_sk h1 → ab_Fr [] h h1 → me_E (d) 91 58 [some (.inr (.inr 54)), some (.inl (zc)), some (.inl (zl))] [.inl (zc), .inl (mi_f h 6913), .inr (.inr 55)] h1 Q)) (k3 : (0 ≤ mi_f h 6913 ∧ mi_f h 6913 ≤ 160) → (zl ≠ ((0 : Int))) → (((0 : Int)) ≤ (mi_f h 6913)) → (((160 : Int)) ≤ (mi_f h 6913)) → (∀ h1, ab_Sh sx_sk h1 → ab_Fr [] h h1 → Q (some (.inl ((0 : Int)))) h1)) : me_E (d) 91 24 [some (.inr (.inr 54)), some (.inl (zc)), some (.inl (zl))] [] h Q := Or.elim (mi_em .eq (zl) (((0 : Int)))) (fun c0 => ms_a54B_0 hS ok_zc ok_zl ⟨c0, (by decide)⟩ (fun h1 W => (k0 c0) h1 W.1 (W.2.2.2.2.2 _ rfl))) (fun c0 => Or.elim (mi_em .lt ((mi_f h 6913)) (((0 : Int)))) (fun c1 => ms_a54B_1 hS ok_zc ok_zl ⟨c0, c1, (by decide)⟩ (fun h1 W => (k1 (me_fb hS rfl) c0 c1) h1 W.1 (W.2.2.2.2.2 _ rfl))) (fun c1 => Or.elim (mi_em .lt ((mi_f h 6913)) (((160 : Int)))) (fun c2 => ms_a54B_2 hS ok_zc ok_zl ⟨c0, c1, c2⟩ (fun h1 W => (k2 (me_fb hS rfl) c0 c1 c2) h1 W.1 (W.2.2.2.2.2 _ rfl))) (fun c2 => ms_a54B_3 hS ok_zc ok_zl ⟨c0, c1, c2, (by decide)⟩ (fun h1 W => (k3 (me_fb hS rfl) c0 c1 c2) h1 W.1 (W.2.2.2.2.2 _ rfl)))))
set_option maxRecDepth 20000 in
theorem mp_a54C_0 (h : sm_H) (d : Nat) (zc zl : Int) : mj_path [(91, (3, 4, sb_91))] sx_sk h 7 [8] (d, 91, 59, [some (.inr (.inr 54)), some (.inl (zc)), some (.inl (zl))], [], [], []) = some ((d, 91, 70, [some (.inr (.inr 54)), some (.inl (zc)), some (.inl (zl))], [.inl ((1 : Int))], [.inl (6913, (mi_f h 6913) + ((1 : Int)))], []), [-2147483648 ≤ (mi_f h 6913) + ((1 : Int)) ∧ (mi_f h 6913) + ((1 : Int)) ≤ 2147483647, 0 ≤ ((mi_f h 6913) + ((1 : Int))) ∧ ((mi_f h 6913) + ((1 : Int))) ≤ 160]) := rfl
theorem mi_tab_a54C_0 : ∀ e ∈ ([(91, (3, 4, sb_91))] : mi_T), sc_P e.1 = some e.2 := mi_tb mi_P91 (mi_tb_e)
set_option maxRecDepth 20000 in
theorem ms_a54C_0 {h : sm_H} {d : Nat} {Q : Option mi_V → sm_H → Prop} {zc zl : Int} (hS : ab_Sh sx_sk h) (ok_zc : mi_in zc) (ok_zl : mi_in zl) (ho : (-2147483648 ≤ (mi_f h 6913) + ((1 : Int)) ∧ (mi_f h 6913) + ((1 : Int)) ≤ 2147483647) ∧ (0 ≤ ((mi_f h 6913) + ((1 : Int))) ∧ ((mi_f h 6913) + ((1 : Int))) ≤ 160) ∧ (((1 : Int)) = 0 ∨ ((1 : Int)) = 1)) (kon : ∀ h1, me_W [.inl (6913, (mi_f h 6913) + ((1 : Int)))] h h1 → Q (some (.inl ((1 : Int)))) h1) : me_E (d) 91 59 [some (.inr (.inr 54)), some (.inl (zc)), some (.inl (zl))] [] h Q := mf_seg (mp_a54C_0 h d zc zl) (mi_tab_a54C_0) hS (mi_okL_c (trivial) (mi_okL_c (ok_zc) (mi_okL_c (ok_zl) (mi_okL_e)))) (mi_okS_e) (mi_al (ho.1) (mi_al (ho.2.1) (mi_al_e))) (fun h1 W _ hst => mf_ret (M := (3, 4, sb_91)) rfl rfl rfl hst (mi_al (ho.2.2) mi_al_e) (kon h1 W))
set_option maxRecDepth 20000 in
theorem mt_a54C {h : sm_H} {d : Nat} {Q : Option mi_V → sm_H → Prop} {zc zl : Int} (hS : ab_Sh sx_sk h) (ok_zc : mi_in zc) (ok_zl : mi_in zl) (k0 : (0 ≤ mi_f h 6913 ∧ mi_f h 6913 ≤ 160) → ((-2147483648 ≤ (mi_f h 6913) + ((1 : Int)) ∧ (mi_f h 6913) + ((1 : Int)) ≤ 2147483647) ∧ (0 ≤ ((mi_f h 6913) + ((1 : Int))) ∧ ((mi_f h 6913) + ((1 : Int))) ≤ 160)) ∧ (∀ h1, ab_Sh sx_sk h1 → mi_f h1 6913 = (mi_f h 6913) + ((1 : Int)) → ab_Fr [(6913, 6914)] h h1 → Q (some (.inl ((1 : Int)))) h1)) : me_E (d) 91 59 [some (.inr (.inr 54)), some (.inl (zc)), some (.inl (zl))] [] h Q := ms_a54C_0 hS ok_zc ok_zl ⟨(k0 (me_fb hS rfl)).1.1, (k0 (me_fb hS rfl)).1.2, (by decide)⟩ (fun h1 W => (k0 (me_fb hS rfl)).2 h1 W.1 (W.2.1 6913) (W.2.2.2.2.2 _ rfl))
set_option maxRecDepth 20000 in
theorem mp_kowA_0 (h : sm_H) (d : Nat) (zc : Int) : mj_path [(140, (2, 0, sb_140))] sx_sk h 3 [] (d + 1, 140, 0, [some (.inr (.inr 108)), some (.inl (zc))], [], [], []) = some ((d + 1, 140, 5, [some (.inr (.inr 108)), some (.inl (zc))], [.inl (zc), .inr (.inr 58)], [], []), []) := rfl
theorem mi_tab_kowA_0 : ∀ e ∈ ([(140, (2, 0, sb_140))] : mi_T), sc_P e.1 = some e.2 := mi_tb mi_P140 (mi_tb_e)
set_option maxRecDepth 20000 in
theorem ms_kowA_0 {h : sm_H} {d : Nat} {Q : Option mi_V → sm_H → Prop} {zc : Int} (hS : ab_Sh sx_sk h) (ok_zc : mi_in zc) (kon : ∀ h1, me_W [] h h1 → ∃ Q1, me_E (d + 0) 91 0 (mi_entry 3 [.inr (.inr 58), .inl (zc)]) [] h1 Q1 ∧ ∀ w h2, (∀ x, w = some x → mi_ok x) → Q1 w h2 → me_E (d + 1) 140 8 [some (.inr (.inr 108)), some (.inl (zc))] (mi_back w []) h2 Q) : me_E (d + 1) 140 0 [some (.inr (.inr 108)), some (.inl (zc))] [] h Q := mf_seg (mp_kowA_0 h d zc) (mi_tab_kowA_0) hS (mi_okL_c (trivial) (mi_okL_c (ok_zc) (mi_okL_e))) (mi_okS_e) (mi_al_e) (fun h1 W _ hst => let ⟨_, k1, k2⟩ := kon h1 W; mf_call (M := (2, 0, sb_140)) (M' := (3, 4, sb_91)) rfl rfl rfl rfl (Nat.le_of_ble_eq_true rfl) (Nat.le_of_ble_eq_true rfl) W.1 k1 k2)
set_option maxRecDepth 20000 in
theorem mt_kowA {h : sm_H} {d : Nat} {Q : Option mi_V → sm_H → Prop} {zc : Int} (hS : ab_Sh sx_sk h) (ok_zc : mi_in zc) (k0 : (∀ h1, ab_Sh sx_sk h1 → ab_Fr [] h h1 → ∃ Q1, me_E (d + 0) 91 0 (mi_entry 3 [.inr (.inr 58), .inl (zc)]) [] h1 Q1 ∧ ∀ w h2, (∀ x, w = some x → mi_ok x) → Q1 w h2 → me_E (d + 1) 140 8 [some (.inr (.inr 108)), some (.inl (zc))] (mi_back w []) h2 Q)) : me_E (d + 1) 140 0 [some (.inr (.inr 108)), some (.inl (zc))] [] h Q := ms_kowA_0 hS ok_zc (fun h1 W => (k0) h1 W.1 (W.2.2.2.2.2 _ rfl))
set_option maxRecDepth 20000 in
theorem mp_kowB_0 (h : sm_H) (d : Nat) (zc zz : Int) : mj_path [(140, (2, 0, sb_140))] sx_sk h 1 [1] (d + 1, 140, 8, [some (.inr (.inr 108)), some (.inl (zc))], [.inl (zz)], [], []) = some ((d + 1, 140, 21, [some (.inr (.inr 108)), some (.inl (zc))], [], [], []), [zz ≠ ((0 : Int))]) := rfl
theorem mi_tab_kowB_0 : ∀ e ∈ ([(140, (2, 0, sb_140))] : mi_T), sc_P e.1 = some e.2 := mi_tb mi_P140 (mi_tb_e)
set_option maxRecDepth 20000 in
theorem ms_kowB_0 {h : sm_H} {d : Nat} {Q : Option mi_V → sm_H → Prop} {zc zz : Int} (hS : ab_Sh sx_sk h) (ok_zc : mi_in zc) (ok_zz : mi_in zz) (ho : (zz ≠ ((0 : Int)))) (kon : ∀ h1, me_W [] h h1 → Q none h1) : me_E (d + 1) 140 8 [some (.inr (.inr 108)), some (.inl (zc))] [.inl (zz)] h Q := mf_seg (mp_kowB_0 h d zc zz) (mi_tab_kowB_0) hS (mi_okL_c (trivial) (mi_okL_c (ok_zc) (mi_okL_e))) (mi_okS_cons (ok_zz) (mi_okS_e)) (mi_al (ho) (mi_al_e)) (fun h1 W _ hst => mf_ret (M := (2, 0, sb_140)) rfl rfl rfl hst (mi_al_e) (kon h1 W))
set_option maxRecDepth 20000 in
theorem mp_kowB_1 (h : sm_H) (d : Nat) (zc zz : Int) : mj_path [(140, (2, 0, sb_140))] sx_sk h 7 [0] (d + 1, 140, 8, [some (.inr (.inr 108)), some (.inl (zc))], [.inl (zz)], [], []) = some ((d + 1, 140, 21, [some (.inr (.inr 108)), some (.inl (zc))], [], [.inl (13827, (1 : Int)), .inl (13836, (1 : Int))], []), [zz = ((0 : Int)), 0 ≤ ((1 : Int)) ∧ ((1 : Int)) ≤ 1, 0 ≤ ((1 : Int)) ∧ ((1 : Int)) ≤ 1, 0 ≤ ((1 : Int)) ∧ ((1 : Int)) ≤ 1, 0 ≤ ((1 : Int)) ∧ ((1 : Int)) ≤ 1]) := rfl
theorem mi_tab_kowB_1 : ∀ e ∈ ([(140, (2, 0, sb_140))] : mi_T), sc_P e.1 = some e.2 := mi_tb mi_P140 (mi_tb_e)
set_option maxRecDepth 20000 in
theorem ms_kowB_1 {h : sm_H} {d : Nat} {Q : Option mi_V → sm_H → Prop} {zc zz : Int} (hS : ab_Sh sx_sk h) (ok_zc : mi_in zc) (ok_zz : mi_in zz) (ho : (zz = ((0 : Int))) ∧ (0 ≤ ((1 : Int)) ∧ ((1 : Int)) ≤ 1) ∧ (0 ≤ ((1 : Int)) ∧ ((1 : Int)) ≤ 1) ∧ (0 ≤ ((1 : Int)) ∧ ((1 : Int)) ≤ 1) ∧ (0 ≤ ((1 : Int)) ∧ ((1 : Int)) ≤ 1)) (kon : ∀ h1, me_W [.inl (13827, (1 : Int)), .inl (13836, (1 : Int))] h h1 → Q none h1) : me_E (d + 1) 140 8 [some (.inr (.inr 108)), some (.inl (zc))] [.inl (zz)] h Q := mf_seg (mp_kowB_1 h d zc zz) (mi_tab_kowB_1) hS (mi_okL_c (trivial) (mi_okL_c (ok_zc) (mi_okL_e))) (mi_okS_cons (ok_zz) (mi_okS_e)) (mi_al (ho.1) (mi_al (ho.2.1) (mi_al (ho.2.2.1) (mi_al (ho.2.2.2.1) (mi_al (ho.2.2.2.2) (mi_al_e)))))) (fun h1 W _ hst => mf_ret (M := (2, 0, sb_140)) rfl rfl rfl hst (mi_al_e) (kon h1 W))
set_option maxRecDepth 20000 in
theorem mt_kowB {h : sm_H} {d : Nat} {Q : Option mi_V → sm_H → Prop} {zc zz : Int} (hS : ab_Sh sx_sk h) (ok_zc : mi_in zc) (ok_zz : mi_in zz) (k0 : (zz ≠ ((0 : Int))) → (∀ h1, ab_Sh sx_sk h1 → ab_Fr [] h h1 → Q none h1)) (k1 : (zz = ((0 : Int))) → (∀ h1, ab_Sh sx_sk h1 → mi_f h1 13827 = (1 : Int) → mi_f h1 13836 = (1 : Int) → ab_Fr [(13827, 13828), (13836, 13837)] h h1 → Q none h1)) : me_E (d + 1) 140 8 [some (.inr (.inr 108)), some (.inl (zc))] [.inl (zz)] h Q := Or.elim (mi_em .ne (zz) (((0 : Int)))) (fun c0 => ms_kowB_0 hS ok_zc ok_zz (c0) (fun h1 W => (k0 c0) h1 W.1 (W.2.2.2.2.2 _ rfl))) (fun c0 => ms_kowB_1 hS ok_zc ok_zz ⟨c0, (by decide), (by decide), (by decide), (by decide)⟩ (fun h1 W => (k1 c0) h1 W.1 (W.2.1 13827) (W.2.1 13836) (W.2.2.2.2.2 _ rfl)))
set_option maxRecDepth 20000 in
theorem mp_kosA_0 (h : sm_H) (d : Nat) (zw : Int) : mj_path [(139, (3, 0, sb_139)), (22, (1, 1, sb_22))] sx_sk h 7 [1] (d + 2, 139, 0, [some (.inr (.inr 108)), some (.inl (zw)), none], [], [], []) = some ((d + 2, 139, 57, [some (.inr (.inr 108)), some (.inl (zw)), none], [], [], []), [(mi_f h 7425) ≤ ((0 : Int))]) := rfl
theorem mi_tab_kosA_0 : ∀ e ∈ ([(139, (3, 0, sb_139)), (22, (1, 1, sb_22))] : mi_T), sc_P e.1 = some e.2 := mi_tb mi_P139 (mi_tb mi_P22 (mi_tb_e))
set_option maxRecDepth 20000 in
theorem ms_kosA_0 {h : sm_H} {d : Nat} {Q : Option mi_V → sm_H → Prop} {zw : Int} (hS : ab_Sh sx_sk h) (ok_zw : mi_in zw) (ho : ((mi_f h 7425) ≤ ((0 : Int)))) (kon : ∀ h1, me_W [] h h1 → me_E (d + 2) 139 57 [some (.inr (.inr 108)), some (.inl (zw)), none] [] h1 Q) : me_E (d + 2) 139 0 [some (.inr (.inr 108)), some (.inl (zw)), none] [] h Q := mf_seg (mp_kosA_0 h d zw) (mi_tab_kosA_0) hS (mi_okL_c (trivial) (mi_okL_c (ok_zw) (mi_okL_n (mi_okL_e)))) (mi_okS_e) (mi_al (ho) (mi_al_e)) (fun h1 W _ hst => kon h1 W)
set_option maxRecDepth 20000 in
theorem mp_kosA_1 (h : sm_H) (d : Nat) (zw : Int) : mj_path [(139, (3, 0, sb_139)), (22, (1, 1, sb_22))] sx_sk h 10 [0, 1] (d + 2, 139, 0, [some (.inr (.inr 108)), some (.inl (zw)), none], [], [], []) = some ((d + 2, 139, 57, [some (.inr (.inr 108)), some (.inl (zw)), none], [], [], []), [((0 : Int)) < (mi_f h 7425), (mi_f h 13833) = ((0 : Int))]) := rfl
theorem mi_tab_kosA_1 : ∀ e ∈ ([(139, (3, 0, sb_139)), (22, (1, 1, sb_22))] : mi_T), sc_P e.1 = some e.2 := mi_tb mi_P139 (mi_tb mi_P22 (mi_tb_e))
set_option maxRecDepth 20000 in
theorem ms_kosA_1 {h : sm_H} {d : Nat} {Q : Option mi_V → sm_H → Prop} {zw : Int} (hS : ab_Sh sx_sk h) (ok_zw : mi_in zw) (ho : (((0 : Int)) < (mi_f h 7425)) ∧ ((mi_f h 13833) = ((0 : Int)))) (kon : ∀ h1, me_W [] h h1 → me_E (d + 2) 139 57 [some (.inr (.inr 108)), some (.inl (zw)), none] [] h1 Q) : me_E (d + 2) 139 0 [some (.inr (.inr 108)), some (.inl (zw)), none] [] h Q := mf_seg (mp_kosA_1 h d zw) (mi_tab_kosA_1) hS (mi_okL_c (trivial) (mi_okL_c (ok_zw) (mi_okL_n (mi_okL_e)))) (mi_okS_e) (mi_al (ho.1) (mi_al (ho.2) (mi_al_e))) (fun h1 W _ hst => kon h1 W)
set_option maxRecDepth 20000 in
theorem mp_kosA_2 (h : sm_H) (d : Nat) (zw : Int) : mj_path [(139, (3, 0, sb_139)), (22, (1, 1, sb_22))] sx_sk h 12 [0, 0] (d + 2, 139, 0, [some (.inr (.inr 108)), some (.inl (zw)), none], [], [], []) = some ((d + 2, 139, 20, [some (.inr (.inr 108)), some (.inl (zw)), none], [.inl ((10 : Int)), .inr (.inr 108)], [], []), [((0 : Int)) < (mi_f h 7425), (mi_f h 13833) ≠ ((0 : Int))]) := rfl
theorem mi_tab_kosA_2 : ∀ e ∈ ([(139, (3, 0, sb_139)), (22, (1, 1, sb_22))] : mi_T), sc_P e.1 = some e.2 := mi_tb mi_P139 (mi_tb mi_P22 (mi_tb_e))
set_option maxRecDepth 20000 in
theorem ms_kosA_2 {h : sm_H} {d : Nat} {Q : Option mi_V → sm_H → Prop} {zw : Int} (hS : ab_Sh sx_sk h) (ok_zw : mi_in zw) (ho : (((0 : Int)) < (mi_f h 7425)) ∧ ((mi_f h 13833) ≠ ((0 : Int)))) (kon : ∀ h1, me_W [] h h1 → ∃ Q1, me_E (d + 1) 140 0 (mi_entry 2 [.inr (.inr 108), .inl ((10 : Int))]) [] h1 Q1 ∧ ∀ w h2, (∀ x, w = some x → mi_ok x) → Q1 w h2 → me_E (d + 2) 139 23 [some (.inr (.inr 108)), some (.inl (zw)), none] (mi_back w []) h2 Q) : me_E (d + 2) 139 0 [some (.inr (.inr 108)), some (.inl (zw)), none] [] h Q := mf_seg (mp_kosA_2 h d zw) (mi_tab_kosA_2) hS (mi_okL_c (trivial) (mi_okL_c (ok_zw) (mi_okL_n (mi_okL_e)))) (mi_okS_e) (mi_al (ho.1) (mi_al (ho.2) (mi_al_e))) (fun h1 W _ hst => let ⟨_, k1, k2⟩ := kon h1 W; mf_call (M := (3, 0, sb_139)) (M' := (2, 0, sb_140)) rfl rfl rfl rfl (Nat.le_of_ble_eq_true rfl) (Nat.le_of_ble_eq_true rfl) W.1 k1 k2)
set_option maxRecDepth 20000 in
theorem mt_kosA {h : sm_H} {d : Nat} {Q : Option mi_V → sm_H → Prop} {zw : Int} (hS : ab_Sh sx_sk h) (ok_zw : mi_in zw) (k0 : (0 ≤ mi_f h 7425 ∧ mi_f h 7425 ≤ 160) → ((mi_f h 7425) ≤ ((0 : Int))) → (∀ h1, ab_Sh sx_sk h1 → ab_Fr [] h h1 → me_E (d + 2) 139 57 [some (.inr (.inr 108)), some (.inl (zw)), none] [] h1 Q)) (k1 : (0 ≤ mi_f h 7425 ∧ mi_f h 7425 ≤ 160) → (0 ≤ mi_f h 13833 ∧ mi_f h 13833 ≤ 1) → (((0 : Int)) < (mi_f h 7425)) → ((mi_f h 13833) = ((0 : Int))) → (∀ h1, ab_Sh sx_sk h1 → ab_Fr [] h h1 → me_E (d + 2) 139 57 [some (.inr (.inr 108)), some (.inl (zw)), none] [] h1 Q)) (k2 : (0 ≤ mi_f h 7425 ∧ mi_f h 7425 ≤ 160) → (0 ≤ mi_f h 13833 ∧ mi_f h 13833 ≤ 1) → (((0 : Int)) < (mi_f h 7425)) → ((mi_f h 13833) ≠ ((0 : Int))) → (∀ h1, ab_Sh sx_sk h1 → ab_Fr [] h h1 → ∃ Q1, me_E (d + 1) 140 0 (mi_entry 2 [.inr (.inr 108), .inl ((10 : Int))]) [] h1 Q1 ∧ ∀ w h2, (∀ x, w = some x → mi_ok x) → Q1 w h2 → me_E (d + 2) 139 23 [some (.inr (.inr 108)), some (.inl (zw)), none] (mi_back w []) h2 Q)) : me_E (d + 2) 139 0 [some (.inr (.inr 108)), some (.inl (zw)), none] [] h Q := Or.elim (mi_em .le ((mi_f h 7425)) (((0 : Int)))) (fun c0 => ms_kosA_0 hS ok_zw (c0) (fun h1 W => (k0 (me_fb hS rfl) c0) h1 W.1 (W.2.2.2.2.2 _ rfl))) (fun c0 => Or.elim (mi_em .eq ((mi_f h 13833)) (((0 : Int)))) (fun c1 => ms_kosA_1 hS ok_zw ⟨c0, c1⟩ (fun h1 W => (k1 (me_fb hS rfl) (me_fb hS rfl) c0 c1) h1 W.1 (W.2.2.2.2.2 _ rfl))) (fun c1 => ms_kosA_2 hS ok_zw ⟨c0, c1⟩ (fun h1 W => (k2 (me_fb hS rfl) (me_fb hS rfl) c0 c1) h1 W.1 (W.2.2.2.2.2 _ rfl))))
set_option maxRecDepth 20000 in
theorem mp_kosB_0 (h : sm_H) (d : Nat) (zw : Int) : mj_path [(139, (3, 0, sb_139))] sx_sk h 2 [] (d + 2, 139, 23, [some (.inr (.inr 108)), some (.inl (zw)), none], [], [], []) = some ((d + 2, 139, 25, [some (.inr (.inr 108)), some (.inl (zw)), some (.inl ((0 : Int)))], [], [], []), []) := rfl
theorem mi_tab_kosB_0 : ∀ e ∈ ([(139, (3, 0, sb_139))] : mi_T), sc_P e.1 = some e.2 := mi_tb mi_P139 (mi_tb_e)
set_option maxRecDepth 20000 in
theorem ms_kosB_0 {h : sm_H} {d : Nat} {Q : Option mi_V → sm_H → Prop} {zw : Int} (hS : ab_Sh sx_sk h) (ok_zw : mi_in zw) (kon : ∀ h1, me_W [] h h1 → me_E (d + 2) 139 25 [some (.inr (.inr 108)), some (.inl (zw)), some (.inl ((0 : Int)))] [] h1 Q) : me_E (d + 2) 139 23 [some (.inr (.inr 108)), some (.inl (zw)), none] [] h Q := mf_seg (mp_kosB_0 h d zw) (mi_tab_kosB_0) hS (mi_okL_c (trivial) (mi_okL_c (ok_zw) (mi_okL_n (mi_okL_e)))) (mi_okS_e) (mi_al_e) (fun h1 W _ hst => kon h1 W)
set_option maxRecDepth 20000 in
theorem mt_kosB {h : sm_H} {d : Nat} {Q : Option mi_V → sm_H → Prop} {zw : Int} (hS : ab_Sh sx_sk h) (ok_zw : mi_in zw) (k0 : (∀ h1, ab_Sh sx_sk h1 → ab_Fr [] h h1 → me_E (d + 2) 139 25 [some (.inr (.inr 108)), some (.inl (zw)), some (.inl ((0 : Int)))] [] h1 Q)) : me_E (d + 2) 139 23 [some (.inr (.inr 108)), some (.inl (zw)), none] [] h Q := ms_kosB_0 hS ok_zw (fun h1 W => (k0) h1 W.1 (W.2.2.2.2.2 _ rfl))
set_option maxRecDepth 20000 in
theorem mp_kosC_0 (h : sm_H) (d : Nat) (zw zn : Int) : mj_path [(139, (3, 0, sb_139))] sx_sk h 7 [1] (d + 2, 139, 25, [some (.inr (.inr 108)), some (.inl (zw)), some (.inl (zn))], [], [], []) = some ((d + 2, 139, 91, [some (.inr (.inr 108)), some (.inl (zw)), some (.inl (zn))], [], [], []), [-2147483648 ≤ ((2 : Int)) * (mi_f h 13832) ∧ ((2 : Int)) * (mi_f h 13832) ≤ 2147483647, (((2 : Int)) * (mi_f h 13832)) ≤ zn]) := rfl
theorem mi_tab_kosC_0 : ∀ e ∈ ([(139, (3, 0, sb_139))] : mi_T), sc_P e.1 = some e.2 := mi_tb mi_P139 (mi_tb_e)
set_option maxRecDepth 20000 in
theorem ms_kosC_0 {h : sm_H} {d : Nat} {Q : Option mi_V → sm_H → Prop} {zw zn : Int} (hS : ab_Sh sx_sk h) (ok_zw : mi_in zw) (ok_zn : mi_in zn) (ho : (-2147483648 ≤ ((2 : Int)) * (mi_f h 13832) ∧ ((2 : Int)) * (mi_f h 13832) ≤ 2147483647) ∧ ((((2 : Int)) * (mi_f h 13832)) ≤ zn)) (kon : ∀ h1, me_W [] h h1 → me_E (d + 2) 139 91 [some (.inr (.inr 108)), some (.inl (zw)), some (.inl (zn))] [] h1 Q) : me_E (d + 2) 139 25 [some (.inr (.inr 108)), some (.inl (zw)), some (.inl (zn))] [] h Q := mf_seg (mp_kosC_0 h d zw zn) (mi_tab_kosC_0) hS (mi_okL_c (trivial) (mi_okL_c (ok_zw) (mi_okL_c (ok_zn) (mi_okL_e)))) (mi_okS_e) (mi_al (ho.1) (mi_al (ho.2) (mi_al_e))) (fun h1 W _ hst => kon h1 W)
set_option maxRecDepth 20000 in
theorem mp_kosC_1 (h : sm_H) (d : Nat) (zw zn : Int) : mj_path [(139, (3, 0, sb_139))] sx_sk h 10 [0, 1] (d + 2, 139, 25, [some (.inr (.inr 108)), some (.inl (zw)), some (.inl (zn))], [], [], []) = some ((d + 2, 139, 91, [some (.inr (.inr 108)), some (.inl (zw)), some (.inl (zn))], [], [], []), [-2147483648 ≤ ((2 : Int)) * (mi_f h 13832) ∧ ((2 : Int)) * (mi_f h 13832) ≤ 2147483647, zn < (((2 : Int)) * (mi_f h 13832)), (mi_f h 13827) ≠ ((0 : Int))]) := rfl
theorem mi_tab_kosC_1 : ∀ e ∈ ([(139, (3, 0, sb_139))] : mi_T), sc_P e.1 = some e.2 := mi_tb mi_P139 (mi_tb_e)
set_option maxRecDepth 20000 in
theorem ms_kosC_1 {h : sm_H} {d : Nat} {Q : Option mi_V → sm_H → Prop} {zw zn : Int} (hS : ab_Sh sx_sk h) (ok_zw : mi_in zw) (ok_zn : mi_in zn) (ho : (-2147483648 ≤ ((2 : Int)) * (mi_f h 13832) ∧ ((2 : Int)) * (mi_f h 13832) ≤ 2147483647) ∧ (zn < (((2 : Int)) * (mi_f h 13832))) ∧ ((mi_f h 13827) ≠ ((0 : Int)))) (kon : ∀ h1, me_W [] h h1 → me_E (d + 2) 139 91 [some (.inr (.inr 108)), some (.inl (zw)), some (.inl (zn))] [] h1 Q) : me_E (d + 2) 139 25 [some (.inr (.inr 108)), some (.inl (zw)), some (.inl (zn))] [] h Q := mf_seg (mp_kosC_1 h d zw zn) (mi_tab_kosC_1) hS (mi_okL_c (trivial) (mi_okL_c (ok_zw) (mi_okL_c (ok_zn) (mi_okL_e)))) (mi_okS_e) (mi_al (ho.1) (mi_al (ho.2.1) (mi_al (ho.2.2) (mi_al_e)))) (fun h1 W _ hst => kon h1 W)
set_option maxRecDepth 20000 in
theorem mp_kosC_2 (h : sm_H) (d : Nat) (zw zn : Int) : mj_path [(139, (3, 0, sb_139))] sx_sk h 11 [0, 0] (d + 2, 139, 25, [some (.inr (.inr 108)), some (.inl (zw)), some (.inl (zn))], [], [], []) = some ((d + 2, 139, 45, [some (.inr (.inr 108)), some (.inl (zw)), some (.inl (zn))], [.inl ((32 : Int)), .inr (.inr 108)], [], []), [-2147483648 ≤ ((2 : Int)) * (mi_f h 13832) ∧ ((2 : Int)) * (mi_f h 13832) ≤ 2147483647, zn < (((2 : Int)) * (mi_f h 13832)), (mi_f h 13827) = ((0 : Int))]) := rfl
theorem mi_tab_kosC_2 : ∀ e ∈ ([(139, (3, 0, sb_139))] : mi_T), sc_P e.1 = some e.2 := mi_tb mi_P139 (mi_tb_e)
set_option maxRecDepth 20000 in
theorem ms_kosC_2 {h : sm_H} {d : Nat} {Q : Option mi_V → sm_H → Prop} {zw zn : Int} (hS : ab_Sh sx_sk h) (ok_zw : mi_in zw) (ok_zn : mi_in zn) (ho : (-2147483648 ≤ ((2 : Int)) * (mi_f h 13832) ∧ ((2 : Int)) * (mi_f h 13832) ≤ 2147483647) ∧ (zn < (((2 : Int)) * (mi_f h 13832))) ∧ ((mi_f h 13827) = ((0 : Int)))) (kon : ∀ h1, me_W [] h h1 → ∃ Q1, me_E (d + 1) 140 0 (mi_entry 2 [.inr (.inr 108), .inl ((32 : Int))]) [] h1 Q1 ∧ ∀ w h2, (∀ x, w = some x → mi_ok x) → Q1 w h2 → me_E (d + 2) 139 48 [some (.inr (.inr 108)), some (.inl (zw)), some (.inl (zn))] (mi_back w []) h2 Q) : me_E (d + 2) 139 25 [some (.inr (.inr 108)), some (.inl (zw)), some (.inl (zn))] [] h Q := mf_seg (mp_kosC_2 h d zw zn) (mi_tab_kosC_2) hS (mi_okL_c (trivial) (mi_okL_c (ok_zw) (mi_okL_c (ok_zn) (mi_okL_e)))) (mi_okS_e) (mi_al (ho.1) (mi_al (ho.2.1) (mi_al (ho.2.2) (mi_al_e)))) (fun h1 W _ hst => let ⟨_, k1, k2⟩ := kon h1 W; mf_call (M := (3, 0, sb_139)) (M' := (2, 0, sb_140)) rfl rfl rfl rfl (Nat.le_of_ble_eq_true rfl) (Nat.le_of_ble_eq_true rfl) W.1 k1 k2)
set_option maxRecDepth 20000 in
theorem mt_kosC {h : sm_H} {d : Nat} {Q : Option mi_V → sm_H → Prop} {zw zn : Int} (hS : ab_Sh sx_sk h) (ok_zw : mi_in zw) (ok_zn : mi_in zn) (k0 : ((-2147483648) ≤ mi_f h 13832 ∧ mi_f h 13832 ≤ 2147483647) → ((((2 : Int)) * (mi_f h 13832)) ≤ zn) → ((-2147483648 ≤ ((2 : Int)) * (mi_f h 13832) ∧ ((2 : Int)) * (mi_f h 13832) ≤ 2147483647)) ∧ (∀ h1, ab_Sh sx_sk h1 → ab_Fr [] h h1 → me_E (d + 2) 139 91 [some (.inr (.inr 108)), some (.inl (zw)), some (.inl (zn))] [] h1 Q)) (k1 : ((-2147483648) ≤ mi_f h 13832 ∧ mi_f h 13832 ≤ 2147483647) → (0 ≤ mi_f h 13827 ∧ mi_f h 13827 ≤ 1) → (zn < (((2 : Int)) * (mi_f h 13832))) → ((mi_f h 13827) ≠ ((0 : Int))) → ((-2147483648 ≤ ((2 : Int)) * (mi_f h 13832) ∧ ((2 : Int)) * (mi_f h 13832) ≤ 2147483647)) ∧ (∀ h1, ab_Sh sx_sk h1 → ab_Fr [] h h1 → me_E (d + 2) 139 91 [some (.inr (.inr 108)), some (.inl (zw)), some (.inl (zn))] [] h1 Q)) (k2 : ((-2147483648) ≤ mi_f h 13832 ∧ mi_f h 13832 ≤ 2147483647) → (0 ≤ mi_f h 13827 ∧ mi_f h 13827 ≤ 1) → (zn < (((2 : Int)) * (mi_f h 13832))) → ((mi_f h 13827) = ((0 : Int))) → ((-2147483648 ≤ ((2 : Int)) * (mi_f h 13832) ∧ ((2 : Int)) * (mi_f h 13832) ≤ 2147483647)) ∧ (∀ h1, ab_Sh sx_sk h1 → ab_Fr [] h h1 → ∃ Q1, me_E (d + 1) 140 0 (mi_entry 2 [.inr (.inr 108), .inl ((32 : Int))]) [] h1 Q1 ∧ ∀ w h2, (∀ x, w = some x → mi_ok x) → Q1 w h2 → me_E (d + 2) 139 48 [some (.inr (.inr 108)), some (.inl (zw)), some (.inl (zn))] (mi_back w []) h2 Q)) : me_E (d + 2) 139 25 [some (.inr (.inr 108)), some (.inl (zw)), some (.inl (zn))] [] h Q := Or.elim (mi_em .ge (zn) ((((2 : Int)) * (mi_f h 13832)))) (fun c0 => ms_kosC_0 hS ok_zw ok_zn ⟨(k0 (me_fb hS rfl) c0).1, c0⟩ (fun h1 W => (k0 (me_fb hS rfl) c0).2 h1 W.1 (W.2.2.2.2.2 _ rfl))) (fun c0 => Or.elim (mi_em .ne ((mi_f h 13827)) (((0 : Int)))) (fun c1 => ms_kosC_1 hS ok_zw ok_zn ⟨(k1 (me_fb hS rfl) (me_fb hS rfl) c0 c1).1, c0, c1⟩ (fun h1 W => (k1 (me_fb hS rfl) (me_fb hS rfl) c0 c1).2 h1 W.1 (W.2.2.2.2.2 _ rfl))) (fun c1 => ms_kosC_2 hS ok_zw ok_zn ⟨(k2 (me_fb hS rfl) (me_fb hS rfl) c0 c1).1, c0, c1⟩ (fun h1 W => (k2 (me_fb hS rfl) (me_fb hS rfl) c0 c1).2 h1 W.1 (W.2.2.2.2.2 _ rfl))))
set_option maxRecDepth 20000 in
theorem mp_kosD_0 (h : sm_H) (d : Nat) (zw zn : Int) : mj_path [(139, (3, 0, sb_139))] sx_sk h 2 [] (d + 2, 139, 48, [some (.inr (.inr 108)), some (.inl (zw)), some (.inl (zn))], [], [], []) = some ((d + 2, 139, 25, [some (.inr (.inr 108)), some (.inl (zw)), some (.inl (zn + 1))], [], [], []), [-2147483648 ≤ zn + 1 ∧ zn + 1 ≤ 2147483647]) := rfl
theorem mi_tab_kosD_0 : ∀ e ∈ ([(139, (3, 0, sb_139))] : mi_T), sc_P e.1 = some e.2 := mi_tb mi_P139 (mi_tb_e)
set_option maxRecDepth 20000 in
theorem ms_kosD_0 {h : sm_H} {d : Nat} {Q : Option mi_V → sm_H → Prop} {zw zn : Int} (hS : ab_Sh sx_sk h) (ok_zw : mi_in zw) (ok_zn : mi_in zn) (ho : (-2147483648 ≤ zn + 1 ∧ zn + 1 ≤ 2147483647)) (kon : ∀ h1, me_W [] h h1 → me_E (d + 2) 139 25 [some (.inr (.inr 108)), some (.inl (zw)), some (.inl (zn + 1))] [] h1 Q) : me_E (d + 2) 139 48 [some (.inr (.inr 108)), some (.inl (zw)), some (.inl (zn))] [] h Q := mf_seg (mp_kosD_0 h d zw zn) (mi_tab_kosD_0) hS (mi_okL_c (trivial) (mi_okL_c (ok_zw) (mi_okL_c (ok_zn) (mi_okL_e)))) (mi_okS_e) (mi_al (ho) (mi_al_e)) (fun h1 W _ hst => kon h1 W)
set_option maxRecDepth 20000 in
theorem mt_kosD {h : sm_H} {d : Nat} {Q : Option mi_V → sm_H → Prop} {zw zn : Int} (hS : ab_Sh sx_sk h) (ok_zw : mi_in zw) (ok_zn : mi_in zn) (k0 : ((-2147483648 ≤ zn + 1 ∧ zn + 1 ≤ 2147483647)) ∧ (∀ h1, ab_Sh sx_sk h1 → ab_Fr [] h h1 → me_E (d + 2) 139 25 [some (.inr (.inr 108)), some (.inl (zw)), some (.inl (zn + 1))] [] h1 Q)) : me_E (d + 2) 139 48 [some (.inr (.inr 108)), some (.inl (zw)), some (.inl (zn))] [] h Q := ms_kosD_0 hS ok_zw ok_zn ((k0).1) (fun h1 W => (k0).2 h1 W.1 (W.2.2.2.2.2 _ rfl))
set_option maxRecDepth 20000 in
theorem mp_kosE_0 (h : sm_H) (d : Nat) (zw : Int) : mj_path [(139, (3, 0, sb_139)), (22, (1, 1, sb_22))] sx_sk h 7 [1] (d + 2, 139, 57, [some (.inr (.inr 108)), some (.inl (zw)), none], [], [], []) = some ((d + 2, 139, 91, [some (.inr (.inr 108)), some (.inl (zw)), none], [], [], []), [(mi_f h 7425) ≤ ((0 : Int))]) := rfl
theorem mi_tab_kosE_0 : ∀ e ∈ ([(139, (3, 0, sb_139)), (22, (1, 1, sb_22))] : mi_T), sc_P e.1 = some e.2 := mi_tb mi_P139 (mi_tb mi_P22 (mi_tb_e))
set_option maxRecDepth 20000 in
theorem ms_kosE_0 {h : sm_H} {d : Nat} {Q : Option mi_V → sm_H → Prop} {zw : Int} (hS : ab_Sh sx_sk h) (ok_zw : mi_in zw) (ho : ((mi_f h 7425) ≤ ((0 : Int)))) (kon : ∀ h1, me_W [] h h1 → me_E (d + 2) 139 91 [some (.inr (.inr 108)), some (.inl (zw)), none] [] h1 Q) : me_E (d + 2) 139 57 [some (.inr (.inr 108)), some (.inl (zw)), none] [] h Q := mf_seg (mp_kosE_0 h d zw) (mi_tab_kosE_0) hS (mi_okL_c (trivial) (mi_okL_c (ok_zw) (mi_okL_n (mi_okL_e)))) (mi_okS_e) (mi_al (ho) (mi_al_e)) (fun h1 W _ hst => kon h1 W)
set_option maxRecDepth 20000 in
theorem mp_kosE_1 (h : sm_H) (d : Nat) (zw : Int) : mj_path [(139, (3, 0, sb_139)), (22, (1, 1, sb_22))] sx_sk h 12 [0, 1] (d + 2, 139, 57, [some (.inr (.inr 108)), some (.inl (zw)), none], [], [], []) = some ((d + 2, 139, 88, [some (.inr (.inr 108)), some (.inl (zw)), none], [.inl ((32 : Int)), .inr (.inr 108)], [], []), [((0 : Int)) < (mi_f h 7425), (mi_f h 13834) ≠ ((0 : Int))]) := rfl
theorem mi_tab_kosE_1 : ∀ e ∈ ([(139, (3, 0, sb_139)), (22, (1, 1, sb_22))] : mi_T), sc_P e.1 = some e.2 := mi_tb mi_P139 (mi_tb mi_P22 (mi_tb_e))
set_option maxRecDepth 20000 in
theorem ms_kosE_1 {h : sm_H} {d : Nat} {Q : Option mi_V → sm_H → Prop} {zw : Int} (hS : ab_Sh sx_sk h) (ok_zw : mi_in zw) (ho : (((0 : Int)) < (mi_f h 7425)) ∧ ((mi_f h 13834) ≠ ((0 : Int)))) (kon : ∀ h1, me_W [] h h1 → ∃ Q1, me_E (d + 1) 140 0 (mi_entry 2 [.inr (.inr 108), .inl ((32 : Int))]) [] h1 Q1 ∧ ∀ w h2, (∀ x, w = some x → mi_ok x) → Q1 w h2 → me_E (d + 2) 139 91 [some (.inr (.inr 108)), some (.inl (zw)), none] (mi_back w []) h2 Q) : me_E (d + 2) 139 57 [some (.inr (.inr 108)), some (.inl (zw)), none] [] h Q := mf_seg (mp_kosE_1 h d zw) (mi_tab_kosE_1) hS (mi_okL_c (trivial) (mi_okL_c (ok_zw) (mi_okL_n (mi_okL_e)))) (mi_okS_e) (mi_al (ho.1) (mi_al (ho.2) (mi_al_e))) (fun h1 W _ hst => let ⟨_, k1, k2⟩ := kon h1 W; mf_call (M := (3, 0, sb_139)) (M' := (2, 0, sb_140)) rfl rfl rfl rfl (Nat.le_of_ble_eq_true rfl) (Nat.le_of_ble_eq_true rfl) W.1 k1 k2)
set_option maxRecDepth 20000 in
theorem mp_kosE_2 (h : sm_H) (d : Nat) (zw : Int) : mj_path [(139, (3, 0, sb_139)), (22, (1, 1, sb_22))] sx_sk h 13 [0, 0, 1] (d + 2, 139, 57, [some (.inr (.inr 108)), some (.inl (zw)), none], [], [], []) = some ((d + 2, 139, 91, [some (.inr (.inr 108)), some (.inl (zw)), none], [], [], []), [((0 : Int)) < (mi_f h 7425), (mi_f h 13834) = ((0 : Int)), (mi_f h 13835) = ((0 : Int))]) := rfl
theorem mi_tab_kosE_2 : ∀ e ∈ ([(139, (3, 0, sb_139)), (22, (1, 1, sb_22))] : mi_T), sc_P e.1 = some e.2 := mi_tb mi_P139 (mi_tb mi_P22 (mi_tb_e))
set_option maxRecDepth 20000 in
theorem ms_kosE_2 {h : sm_H} {d : Nat} {Q : Option mi_V → sm_H → Prop} {zw : Int} (hS : ab_Sh sx_sk h) (ok_zw : mi_in zw) (ho : (((0 : Int)) < (mi_f h 7425)) ∧ ((mi_f h 13834) = ((0 : Int))) ∧ ((mi_f h 13835) = ((0 : Int)))) (kon : ∀ h1, me_W [] h h1 → me_E (d + 2) 139 91 [some (.inr (.inr 108)), some (.inl (zw)), none] [] h1 Q) : me_E (d + 2) 139 57 [some (.inr (.inr 108)), some (.inl (zw)), none] [] h Q := mf_seg (mp_kosE_2 h d zw) (mi_tab_kosE_2) hS (mi_okL_c (trivial) (mi_okL_c (ok_zw) (mi_okL_n (mi_okL_e)))) (mi_okS_e) (mi_al (ho.1) (mi_al (ho.2.1) (mi_al (ho.2.2) (mi_al_e)))) (fun h1 W _ hst => kon h1 W)
set_option maxRecDepth 20000 in
theorem mp_kosE_3 (h : sm_H) (d : Nat) (zw : Int) : mj_path [(139, (3, 0, sb_139)), (22, (1, 1, sb_22))] sx_sk h 15 [0, 0, 0, 1] (d + 2, 139, 57, [some (.inr (.inr 108)), some (.inl (zw)), none], [], [], []) = some ((d + 2, 139, 91, [some (.inr (.inr 108)), some (.inl (zw)), none], [], [], []), [((0 : Int)) < (mi_f h 7425), (mi_f h 13834) = ((0 : Int)), (mi_f h 13835) ≠ ((0 : Int)), zw = ((0 : Int))]) := rfl
theorem mi_tab_kosE_3 : ∀ e ∈ ([(139, (3, 0, sb_139)), (22, (1, 1, sb_22))] : mi_T), sc_P e.1 = some e.2 := mi_tb mi_P139 (mi_tb mi_P22 (mi_tb_e))
set_option maxRecDepth 20000 in
theorem ms_kosE_3 {h : sm_H} {d : Nat} {Q : Option mi_V → sm_H → Prop} {zw : Int} (hS : ab_Sh sx_sk h) (ok_zw : mi_in zw) (ho : (((0 : Int)) < (mi_f h 7425)) ∧ ((mi_f h 13834) = ((0 : Int))) ∧ ((mi_f h 13835) ≠ ((0 : Int))) ∧ (zw = ((0 : Int)))) (kon : ∀ h1, me_W [] h h1 → me_E (d + 2) 139 91 [some (.inr (.inr 108)), some (.inl (zw)), none] [] h1 Q) : me_E (d + 2) 139 57 [some (.inr (.inr 108)), some (.inl (zw)), none] [] h Q := mf_seg (mp_kosE_3 h d zw) (mi_tab_kosE_3) hS (mi_okL_c (trivial) (mi_okL_c (ok_zw) (mi_okL_n (mi_okL_e)))) (mi_okS_e) (mi_al (ho.1) (mi_al (ho.2.1) (mi_al (ho.2.2.1) (mi_al (ho.2.2.2) (mi_al_e))))) (fun h1 W _ hst => kon h1 W)
set_option maxRecDepth 20000 in
theorem mp_kosE_4 (h : sm_H) (d : Nat) (zw : Int) : mj_path [(139, (3, 0, sb_139)), (22, (1, 1, sb_22))] sx_sk h 17 [0, 0, 0, 0] (d + 2, 139, 57, [some (.inr (.inr 108)), some (.inl (zw)), none], [], [], []) = some ((d + 2, 139, 88, [some (.inr (.inr 108)), some (.inl (zw)), none], [.inl ((32 : Int)), .inr (.inr 108)], [], []), [((0 : Int)) < (mi_f h 7425), (mi_f h 13834) = ((0 : Int)), (mi_f h 13835) ≠ ((0 : Int)), zw ≠ ((0 : Int))]) := rfl
theorem mi_tab_kosE_4 : ∀ e ∈ ([(139, (3, 0, sb_139)), (22, (1, 1, sb_22))] : mi_T), sc_P e.1 = some e.2 := mi_tb mi_P139 (mi_tb mi_P22 (mi_tb_e))
set_option maxRecDepth 20000 in
theorem ms_kosE_4 {h : sm_H} {d : Nat} {Q : Option mi_V → sm_H → Prop} {zw : Int} (hS : ab_Sh sx_sk h) (ok_zw : mi_in zw) (ho : (((0 : Int)) < (mi_f h 7425)) ∧ ((mi_f h 13834) = ((0 : Int))) ∧ ((mi_f h 13835) ≠ ((0 : Int))) ∧ (zw ≠ ((0 : Int)))) (kon : ∀ h1, me_W [] h h1 → ∃ Q1, me_E (d + 1) 140 0 (mi_entry 2 [.inr (.inr 108), .inl ((32 : Int))]) [] h1 Q1 ∧ ∀ w h2, (∀ x, w = some x → mi_ok x) → Q1 w h2 → me_E (d + 2) 139 91 [some (.inr (.inr 108)), some (.inl (zw)), none] (mi_back w []) h2 Q) : me_E (d + 2) 139 57 [some (.inr (.inr 108)), some (.inl (zw)), none] [] h Q := mf_seg (mp_kosE_4 h d zw) (mi_tab_kosE_4) hS (mi_okL_c (trivial) (mi_okL_c (ok_zw) (mi_okL_n (mi_okL_e)))) (mi_okS_e) (mi_al (ho.1) (mi_al (ho.2.1) (mi_al (ho.2.2.1) (mi_al (ho.2.2.2) (mi_al_e))))) (fun h1 W _ hst => let ⟨_, k1, k2⟩ := kon h1 W; mf_call (M := (3, 0, sb_139)) (M' := (2, 0, sb_140)) rfl rfl rfl rfl (Nat.le_of_ble_eq_true rfl) (Nat.le_of_ble_eq_true rfl) W.1 k1 k2)
set_option maxRecDepth 20000 in
theorem mt_kosE {h : sm_H} {d : Nat} {Q : Option mi_V → sm_H → Prop} {zw : Int} (hS : ab_Sh sx_sk h) (ok_zw : mi_in zw) (k0 : (0 ≤ mi_f h 7425 ∧ mi_f h 7425 ≤ 160) → ((mi_f h 7425) ≤ ((0 : Int))) → (∀ h1, ab_Sh sx_sk h1 → ab_Fr [] h h1 → me_E (d + 2) 139 91 [some (.inr (.inr 108)), some (.inl (zw)), none] [] h1 Q)) (k1 : (0 ≤ mi_f h 7425 ∧ mi_f h 7425 ≤ 160) → (0 ≤ mi_f h 13834 ∧ mi_f h 13834 ≤ 1) → (((0 : Int)) < (mi_f h 7425)) → ((mi_f h 13834) ≠ ((0 : Int))) → (∀ h1, ab_Sh sx_sk h1 → ab_Fr [] h h1 → ∃ Q1, me_E (d + 1) 140 0 (mi_entry 2 [.inr (.inr 108), .inl ((32 : Int))]) [] h1 Q1 ∧ ∀ w h2, (∀ x, w = some x → mi_ok x) → Q1 w h2 → me_E (d + 2) 139 91 [some (.inr (.inr 108)), some (.inl (zw)), none] (mi_back w []) h2 Q)) (k2 : (0 ≤ mi_f h 7425 ∧ mi_f h 7425 ≤ 160) → (0 ≤ mi_f h 13834 ∧ mi_f h 13834 ≤ 1) → (0 ≤ mi_f h 13835 ∧ mi_f h 13835 ≤ 1) → (((0 : Int)) < (mi_f h 7425)) → ((mi_f h 13834) = ((0 : Int))) → ((mi_f h 13835) = ((0 : Int))) → (∀ h1, ab_Sh sx_sk h1 → ab_Fr [] h h1 → me_E (d + 2) 139 91 [some (.inr (.inr 108)), some (.inl (zw)), none] [] h1 Q)) (k3 : (0 ≤ mi_f h 7425 ∧ mi_f h 7425 ≤ 160) → (0 ≤ mi_f h 13834 ∧ mi_f h 13834 ≤ 1) → (0 ≤ mi_f h 13835 ∧ mi_f h 13835 ≤ 1) → (((0 : Int)) < (mi_f h 7425)) → ((mi_f h 13834) = ((0 : Int))) → ((mi_f h 13835) ≠ ((0 : Int))) → (zw = ((0 : Int))) → (∀ h1, ab_Sh sx_sk h1 → ab_Fr [] h h1 → me_E (d + 2) 139 91 [some (.inr (.inr 108)), some (.inl (zw)), none] [] h1 Q)) (k4 : (0 ≤ mi_f h 7425 ∧ mi_f h 7425 ≤ 160) → (0 ≤ mi_f h 13834 ∧ mi_f h 13834 ≤ 1) → (0 ≤ mi_f h 13835 ∧ mi_f h 13835 ≤ 1) → (((0 : Int)) < (mi_f h 7425)) → ((mi_f h 13834) = ((0 : Int))) → ((mi_f h 13835) ≠ ((0 : Int))) → (zw ≠ ((0 : Int))) → (∀ h1, ab_Sh sx_sk h1 → ab_Fr [] h h1 → ∃ Q1, me_E (d + 1) 140 0 (mi_entry 2 [.inr (.inr 108), .inl ((32 : Int))]) [] h1 Q1 ∧ ∀ w h2, (∀ x, w = some x → mi_ok x) → Q1 w h2 → me_E (d + 2) 139 91 [some (.inr (.inr 108)), some (.inl (zw)), none] (mi_back w []) h2 Q)) : me_E (d + 2) 139 57 [some (.inr (.inr 108)), some (.inl (zw)), none] [] h Q := Or.elim (mi_em .le ((mi_f h 7425)) (((0 : Int)))) (fun c0 => ms_kosE_0 hS ok_zw (c0) (fun h1 W => (k0 (me_fb hS rfl) c0) h1 W.1 (W.2.2.2.2.2 _ rfl))) (fun c0 => Or.elim (mi_em .ne ((mi_f h 13834)) (((0 : Int)))) (fun c1 => ms_kosE_1 hS ok_zw ⟨c0, c1⟩ (fun h1 W => (k1 (me_fb hS rfl) (me_fb hS rfl) c0 c1) h1 W.1 (W.2.2.2.2.2 _ rfl))) (fun c1 => Or.elim (mi_em .eq ((mi_f h 13835)) (((0 : Int)))) (fun c2 => ms_kosE_2 hS ok_zw ⟨c0, c1, c2⟩ (fun h1 W => (k2 (me_fb hS rfl) (me_fb hS rfl) (me_fb hS rfl) c0 c1 c2) h1 W.1 (W.2.2.2.2.2 _ rfl))) (fun c2 => Or.elim (mi_em .eq (zw) (((0 : Int)))) (fun c3 => ms_kosE_3 hS ok_zw ⟨c0, c1, c2, c3⟩ (fun h1 W => (k3 (me_fb hS rfl) (me_fb hS rfl) (me_fb hS rfl) c0 c1 c2 c3) h1 W.1 (W.2.2.2.2.2 _ rfl))) (fun c3 => ms_kosE_4 hS ok_zw ⟨c0, c1, c2, c3⟩ (fun h1 W => (k4 (me_fb hS rfl) (me_fb hS rfl) (me_fb hS rfl) c0 c1 c2 c3) h1 W.1 (W.2.2.2.2.2 _ rfl))))))
set_option maxRecDepth 20000 in
theorem mp_kosF_0 (h : sm_H) (d : Nat) (zw : Int) (q2 : Option mi_V) : mj_path [(139, (3, 0, sb_139))] sx_sk h 9 [] (d + 2, 139, 91, [some (.inr (.inr 108)), some (.inl (zw)), q2], [], [], []) = some ((d + 2, 139, 106, [some (.inr (.inr 108)), some (.inl (zw)), q2], [], [.inl (13835, zw), .inl (13834, (0 : Int)), .inl (13833, (0 : Int))], []), [0 ≤ ((0 : Int)) ∧ ((0 : Int)) ≤ 1, 0 ≤ ((0 : Int)) ∧ ((0 : Int)) ≤ 1, 0 ≤ ((0 : Int)) ∧ ((0 : Int)) ≤ 1, 0 ≤ ((0 : Int)) ∧ ((0 : Int)) ≤ 1, 0 ≤ zw ∧ zw ≤ 1, 0 ≤ zw ∧ zw ≤ 1]) := rfl
theorem mi_tab_kosF_0 : ∀ e ∈ ([(139, (3, 0, sb_139))] : mi_T), sc_P e.1 = some e.2 := mi_tb mi_P139 (mi_tb_e)
set_option maxRecDepth 20000 in
theorem ms_kosF_0 {h : sm_H} {d : Nat} {Q : Option mi_V → sm_H → Prop} {zw : Int} {q2 : Option mi_V} (hS : ab_Sh sx_sk h) (ok_zw : mi_in zw) (ok_q2 : ∀ v, q2 = some v → mi_ok v) (ho : (0 ≤ ((0 : Int)) ∧ ((0 : Int)) ≤ 1) ∧ (0 ≤ ((0 : Int)) ∧ ((0 : Int)) ≤ 1) ∧ (0 ≤ ((0 : Int)) ∧ ((0 : Int)) ≤ 1) ∧ (0 ≤ ((0 : Int)) ∧ ((0 : Int)) ≤ 1) ∧ (0 ≤ zw ∧ zw ≤ 1) ∧ (0 ≤ zw ∧ zw ≤ 1)) (kon : ∀ h1, me_W [.inl (13835, zw), .inl (13834, (0 : Int)), .inl (13833, (0 : Int))] h h1 → Q none h1) : me_E (d + 2) 139 91 [some (.inr (.inr 108)), some (.inl (zw)), q2] [] h Q := mf_seg (mp_kosF_0 h d zw q2) (mi_tab_kosF_0) hS (mi_okL_c (trivial) (mi_okL_c (ok_zw) (mi_okL_o ok_q2 (mi_okL_e)))) (mi_okS_e) (mi_al (ho.1) (mi_al (ho.2.1) (mi_al (ho.2.2.1) (mi_al (ho.2.2.2.1) (mi_al (ho.2.2.2.2.1) (mi_al (ho.2.2.2.2.2) (mi_al_e))))))) (fun h1 W _ hst => mf_ret (M := (3, 0, sb_139)) rfl rfl rfl hst (mi_al_e) (kon h1 W))
set_option maxRecDepth 20000 in
theorem mt_kosF {h : sm_H} {d : Nat} {Q : Option mi_V → sm_H → Prop} {zw : Int} {q2 : Option mi_V} (hS : ab_Sh sx_sk h) (ok_zw : mi_in zw) (ok_q2 : ∀ v, q2 = some v → mi_ok v) (k0 : ((0 ≤ zw ∧ zw ≤ 1)) ∧ (∀ h1, ab_Sh sx_sk h1 → mi_f h1 13833 = (0 : Int) → mi_f h1 13834 = (0 : Int) → mi_f h1 13835 = zw → ab_Fr [(13833, 13836)] h h1 → Q none h1)) : me_E (d + 2) 139 91 [some (.inr (.inr 108)), some (.inl (zw)), q2] [] h Q := ms_kosF_0 hS ok_zw ok_q2 ⟨(by decide), (by decide), (by decide), (by decide), (k0).1, (k0).1⟩ (fun h1 W => (k0).2 h1 W.1 (W.2.1 13833) (W.2.1 13834) (W.2.1 13835) (W.2.2.2.2.2 _ rfl))
/-! segments of the class: Printing, writeNumber, writeCode -/
set_option maxRecDepth 20000 in
theorem mp_konA_0 (h : sm_H) (d : Nat) (zn : Int) : mj_path [(138, (3, 0, sb_138))] sx_sk h 2 [] (d + 3, 138, 0, [some (.inr (.inr 108)), some (.inl (zn)), none], [], [], []) = some ((d + 3, 138, 2, [some (.inr (.inr 108)), some (.inl (zn)), none], [.inl ((1 : Int)), .inr (.inr 108)], [], []), []) := rfl
theorem mi_tab_konA_0 : ∀ e ∈ ([(138, (3, 0, sb_138))] : mi_T), sc_P e.1 = some e.2 := mi_tb mi_P138 (mi_tb_e)
set_option maxRecDepth 20000 in
theorem ms_konA_0 {h : sm_H} {d : Nat} {Q : Option mi_V → sm_H → Prop} {zn : Int} (hS : ab_Sh sx_sk h) (ok_zn : mi_in zn) (kon : ∀ h1, me_W [] h h1 → ∃ Q1, me_E (d + 2) 139 0 (mi_entry 3 [.inr (.inr 108), .inl ((1 : Int))]) [] h1 Q1 ∧ ∀ w h2, (∀ x, w = some x → mi_ok x) → Q1 w h2 → me_E (d + 3) 138 5 [some (.inr (.inr 108)), some (.inl (zn)), none] (mi_back w []) h2 Q) : me_E (d + 3) 138 0 [some (.inr (.inr 108)), some (.inl (zn)), none] [] h Q := mf_seg (mp_konA_0 h d zn) (mi_tab_konA_0) hS (mi_okL_c (trivial) (mi_okL_c (ok_zn) (mi_okL_n (mi_okL_e)))) (mi_okS_e) (mi_al_e) (fun h1 W _ hst => let ⟨_, k1, k2⟩ := kon h1 W; mf_call (M := (3, 0, sb_138)) (M' := (3, 0, sb_139)) rfl rfl rfl rfl (Nat.le_of_ble_eq_true rfl) (Nat.le_of_ble_eq_true rfl) W.1 k1 k2)
set_option maxRecDepth 20000 in
theorem mt_konA {h : sm_H} {d : Nat} {Q : Option mi_V → sm_H → Prop} {zn : Int} (hS : ab_Sh sx_sk h) (ok_zn : mi_in zn) (k0 : (∀ h1, ab_Sh sx_sk h1 → ab_Fr [] h h1 → ∃ Q1, me_E (d + 2) 139 0 (mi_entry 3 [.inr (.inr 108), .inl ((1 : Int))]) [] h1 Q1 ∧ ∀ w h2, (∀ x, w = some x → mi_ok x) → Q1 w h2 → me_E (d + 3) 138 5 [some (.inr (.inr 108)), some (.inl (zn)), none] (mi_back w []) h2 Q)) : me_E (d + 3) 138 0 [some (.inr (.inr 108)), some (.inl (zn)), none] [] h Q := ms_konA_0 hS ok_zn (fun h1 W => (k0) h1 W.1 (W.2.2.2.2.2 _ rfl))
set_option maxRecDepth 20000 in
theorem mp_konB_0 (h : sm_H) (d : Nat) (zn : Int) : mj_path [(138, (3, 0, sb_138))] sx_sk h 2 [] (d + 3, 138, 5, [some (.inr (.inr 108)), some (.inl (zn)), none], [], [], []) = some ((d + 3, 138, 9, [some (.inr (.inr 108)), some (.inl (zn)), some (.inl ((1000 : Int)))], [], [], []), []) := rfl
theorem mi_tab_konB_0 : ∀ e ∈ ([(138, (3, 0, sb_138))] : mi_T), sc_P e.1 = some e.2 := mi_tb mi_P138 (mi_tb_e)
set_option maxRecDepth 20000 in
theorem ms_konB_0 {h : sm_H} {d : Nat} {Q : Option mi_V → sm_H → Prop} {zn : Int} (hS : ab_Sh sx_sk h) (ok_zn : mi_in zn) (kon : ∀ h1, me_W [] h h1 → me_E (d + 3) 138 9 [some (.inr (.inr 108)), some (.inl (zn)), some (.inl ((1000 : Int)))] [] h1 Q) : me_E (d + 3) 138 5 [some (.inr (.inr 108)), some (.inl (zn)), none] [] h Q := mf_seg (mp_konB_0 h d zn) (mi_tab_konB_0) hS (mi_okL_c (trivial) (mi_okL_c (ok_zn) (mi_okL_n (mi_okL_e)))) (mi_okS_e) (mi_al_e) (fun h1 W _ hst => kon h1 W)
set_option maxRecDepth 20000 in
theorem mt_konB {h : sm_H} {d : Nat} {Q : Option mi_V → sm_H → Prop} {zn : Int} (hS : ab_Sh sx_sk h) (ok_zn : mi_in zn) (k0 : (∀ h1, ab_Sh sx_sk h1 → ab_Fr [] h h1 → me_E (d + 3) 138 9 [some (.inr (.inr 108)), some (.inl (zn)), some (.inl ((1000 : Int)))] [] h1 Q)) : me_E (d + 3) 138 5 [some (.inr (.inr 108)), some (.inl (zn)), none] [] h Q := ms_konB_0 hS ok_zn (fun h1 W => (k0) h1 W.1 (W.2.2.2.2.2 _ rfl))
set_option maxRecDepth 20000 in
theorem mp_konC_0 (h : sm_H) (d : Nat) (zn zs : Int) : mj_path [(138, (3, 0, sb_138))] sx_sk h 2 [1] (d + 3, 138, 9, [some (.inr (.inr 108)), some (.inl (zn)), some (.inl (zs))], [], [], []) = some ((d + 3, 138, 45, [some (.inr (.inr 108)), some (.inl (zn)), some (.inl (zs))], [], [], []), [zs ≤ ((0 : Int))]) := rfl
theorem mi_tab_konC_0 : ∀ e ∈ ([(138, (3, 0, sb_138))] : mi_T), sc_P e.1 = some e.2 := mi_tb mi_P138 (mi_tb_e)
set_option maxRecDepth 20000 in
theorem ms_konC_0 {h : sm_H} {d : Nat} {Q : Option mi_V → sm_H → Prop} {zn zs : Int} (hS : ab_Sh sx_sk h) (ok_zn : mi_in zn) (ok_zs : mi_in zs) (ho : (zs ≤ ((0 : Int)))) (kon : ∀ h1, me_W [] h h1 → Q none h1) : me_E (d + 3) 138 9 [some (.inr (.inr 108)), some (.inl (zn)), some (.inl (zs))] [] h Q := mf_seg (mp_konC_0 h d zn zs) (mi_tab_konC_0) hS (mi_okL_c (trivial) (mi_okL_c (ok_zn) (mi_okL_c (ok_zs) (mi_okL_e)))) (mi_okS_e) (mi_al (ho) (mi_al_e)) (fun h1 W _ hst => mf_ret (M := (3, 0, sb_138)) rfl rfl rfl hst (mi_al_e) (kon h1 W))
set_option maxRecDepth 20000 in
theorem mp_konC_1 (h : sm_H) (d : Nat) (zn zs : Int) : mj_path [(138, (3, 0, sb_138))] sx_sk h 13 [0, 1, 8] (d + 3, 138, 9, [some (.inr (.inr 108)), some (.inl (zn)), some (.inl (zs))], [], [], []) = some ((d + 3, 138, 33, [some (.inr (.inr 108)), some (.inl (zn)), some (.inl (zs))], [.inl (((48 : Int)) + ((Int32.ofInt ((Int32.ofInt zn / Int32.ofInt zs).toInt) - Int32.ofInt ((Int32.ofInt zn / Int32.ofInt zs).toInt) / Int32.ofInt ((10 : Int)) * Int32.ofInt ((10 : Int))).toInt)), .inr (.inr 108)], [], []), [((0 : Int)) < zs, zs ≤ zn, zs ≠ 0, ((10 : Int)) ≠ 0, -2147483648 ≤ ((48 : Int)) + ((Int32.ofInt ((Int32.ofInt zn / Int32.ofInt zs).toInt) - Int32.ofInt ((Int32.ofInt zn / Int32.ofInt zs).toInt) / Int32.ofInt ((10 : Int)) * Int32.ofInt ((10 : Int))).toInt) ∧ ((48 : Int)) + ((Int32.ofInt ((Int32.ofInt zn / Int32.ofInt zs).toInt) - Int32.ofInt ((Int32.ofInt zn / Int32.ofInt zs).toInt) / Int32.ofInt ((10 : Int)) * Int32.ofInt ((10 : Int))).toInt) ≤ 2147483647]) := rfl
theorem mi_tab_konC_1 : ∀ e ∈ ([(138, (3, 0, sb_138))] : mi_T), sc_P e.1 = some e.2 := mi_tb mi_P138 (mi_tb_e)
set_option maxRecDepth 20000 in
theorem ms_konC_1 {h : sm_H} {d : Nat} {Q : Option mi_V → sm_H → Prop} {zn zs : Int} (hS : ab_Sh sx_sk h) (ok_zn : mi_in zn) (ok_zs : mi_in zs) (ho : (((0 : Int)) < zs) ∧ (zs ≤ zn) ∧ (zs ≠ 0) ∧ (((10 : Int)) ≠ 0) ∧ (-2147483648 ≤ ((48 : Int)) + ((Int32.ofInt ((Int32.ofInt zn / Int32.ofInt zs).toInt) - Int32.ofInt ((Int32.ofInt zn / Int32.ofInt zs).toInt) / Int32.ofInt ((10 : Int)) * Int32.ofInt ((10 : Int))).toInt) ∧ ((48 : Int)) + ((Int32.ofInt ((Int32.ofInt zn / Int32.ofInt zs).toInt) - Int32.ofInt ((Int32.ofInt zn / Int32.ofInt zs).toInt) / Int32.ofInt ((10 : Int)) * Int32.ofInt ((10 : Int))).toInt) ≤ 2147483647)) (kon : ∀ h1, me_W [] h h1 → me_E (d + 3) 138 33 [some (.inr (.inr 108)), some (.inl (zn)), some (.inl (zs))] [.inl (((48 : Int)) + ((Int32.ofInt ((Int32.ofInt zn / Int32.ofInt zs).toInt) - Int32.ofInt ((Int32.ofInt zn / Int32.ofInt zs).toInt) / Int32.ofInt ((10 : Int)) * Int32.ofInt ((10 : Int))).toInt)), .inr (.inr 108)] h1 Q) : me_E (d + 3) 138 9 [some (.inr (.inr 108)), some (.inl (zn)), some (.inl (zs))] [] h Q := mf_seg (mp_konC_1 h d zn zs) (mi_tab_konC_1) hS (mi_okL_c (trivial) (mi_okL_c (ok_zn) (mi_okL_c (ok_zs) (mi_okL_e)))) (mi_okS_e) (mi_al (ho.1) (mi_al (ho.2.1) (mi_al (ho.2.2.1) (mi_al (ho.2.2.2.1) (mi_al (ho.2.2.2.2) (mi_al_e)))))) (fun h1 W _ hst => kon h1 W)
set_option maxRecDepth 20000 in
theorem mp_konC_2 (h : sm_H) (d : Nat) (zn zs : Int) : mj_path [(138, (3, 0, sb_138))] sx_sk h 8 [0, 0, 1] (d + 3, 138, 9, [some (.inr (.inr 108)), some (.inl (zn)), some (.inl (zs))], [], [], []) = some ((d + 3, 138, 37, [some (.inr (.inr 108)), some (.inl (zn)), some (.inl (zs))], [], [], []), [((0 : Int)) < zs, zn < zs, zs ≠ ((1 : Int))]) := rfl
theorem mi_tab_konC_2 : ∀ e ∈ ([(138, (3, 0, sb_138))] : mi_T), sc_P e.1 = some e.2 := mi_tb mi_P138 (mi_tb_e)
set_option maxRecDepth 20000 in
theorem ms_konC_2 {h : sm_H} {d : Nat} {Q : Option mi_V → sm_H → Prop} {zn zs : Int} (hS : ab_Sh sx_sk h) (ok_zn : mi_in zn) (ok_zs : mi_in zs) (ho : (((0 : Int)) < zs) ∧ (zn < zs) ∧ (zs ≠ ((1 : Int)))) (kon : ∀ h1, me_W [] h h1 → me_E (d + 3) 138 37 [some (.inr (.inr 108)), some (.inl (zn)), some (.inl (zs))] [] h1 Q) : me_E (d + 3) 138 9 [some (.inr (.inr 108)), some (.inl (zn)), some (.inl (zs))] [] h Q := mf_seg (mp_konC_2 h d zn zs) (mi_tab_konC_2) hS (mi_okL_c (trivial) (mi_okL_c (ok_zn) (mi_okL_c (ok_zs) (mi_okL_e)))) (mi_okS_e) (mi_al (ho.1) (mi_al (ho.2.1) (mi_al (ho.2.2) (mi_al_e)))) (fun h1 W _ hst => kon h1 W)
set_option maxRecDepth 20000 in
theorem mp_konC_3 (h : sm_H) (d : Nat) (zn zs : Int) : mj_path [(138, (3, 0, sb_138))] sx_sk h 16 [0, 0, 0, 8] (d + 3, 138, 9, [some (.inr (.inr 108)), some (.inl (zn)), some (.inl (zs))], [], [], []) = some ((d + 3, 138, 33, [some (.inr (.inr 108)), some (.inl (zn)), some (.inl (zs))], [.inl (((48 : Int)) + ((Int32.ofInt ((Int32.ofInt zn / Int32.ofInt zs).toInt) - Int32.ofInt ((Int32.ofInt zn / Int32.ofInt zs).toInt) / Int32.ofInt ((10 : Int)) * Int32.ofInt ((10 : Int))).toInt)), .inr (.inr 108)], [], []), [((0 : Int)) < zs, zn < zs, zs = ((1 : Int)), zs ≠ 0, ((10 : Int)) ≠ 0, -2147483648 ≤ ((48 : Int)) + ((Int32.ofInt ((Int32.ofInt zn / Int32.ofInt zs).toInt) - Int32.ofInt ((Int32.ofInt zn / Int32.ofInt zs).toInt) / Int32.ofInt ((10 : Int)) * Int32.ofInt ((10 : Int))).toInt) ∧ ((48 : Int)) + ((Int32.ofInt ((Int32.ofInt zn / Int32.ofInt zs).toInt) - Int32.ofInt ((Int32.ofInt zn / Int32.ofInt zs).toInt) / Int32.ofInt ((10 : Int)) * Int32.ofInt ((10 : Int))).toInt) ≤ 2147483647]) := rfl
theorem mi_tab_konC_3 : ∀ e ∈ ([(138, (3, 0, sb_138))] : mi_T), sc_P e.1 = some e.2 := mi_tb mi_P138 (mi_tb_e)
set_option maxRecDepth 20000 in
theorem ms_konC_3 {h : sm_H} {d : Nat} {Q : Option mi_V → sm_H → Prop} {zn zs : Int} (hS : ab_Sh sx_sk h) (ok_zn : mi_in zn) (ok_zs : mi_in zs) (ho : (((0 : Int)) < zs) ∧ (zn < zs) ∧ (zs = ((1 : Int))) ∧ (zs ≠ 0) ∧ (((10 : Int)) ≠ 0) ∧ (-2147483648 ≤ ((48 : Int)) + ((Int32.ofInt ((Int32.ofInt zn / Int32.ofInt zs).toInt) - Int32.ofInt ((Int32.ofInt zn / Int32.ofInt zs).toInt) / Int32.ofInt ((10 : Int)) * Int32.ofInt ((10 : Int))).toInt) ∧ ((48 : Int)) + ((Int32.ofInt ((Int32.ofInt zn / Int32.ofInt zs).toInt) - Int32.ofInt ((Int32.ofInt zn / Int32.ofInt zs).toInt) / Int32.ofInt ((10 : Int)) * Int32.ofInt ((10 : Int))).toInt) ≤ 2147483647)) (kon : ∀ h1, me_W [] h h1 → me_E (d + 3) 138 33 [some (.inr (.inr 108)), some (.inl (zn)), some (.inl (zs))] [.inl (((48 : Int)) + ((Int32.ofInt ((Int32.ofInt zn / Int32.ofInt zs).toInt) - Int32.ofInt ((Int32.ofInt zn / Int32.ofInt zs).toInt) / Int32.ofInt ((10 : Int)) * Int32.ofInt ((10 : Int))).toInt)), .inr (.inr 108)] h1 Q) : me_E (d + 3) 138 9 [some (.inr (.inr 108)), some (.inl (zn)), some (.inl (zs))] [] h Q := mf_seg (mp_konC_3 h d zn zs) (mi_tab_konC_3) hS (mi_okL_c (trivial) (mi_okL_c (ok_zn) (mi_okL_c (ok_zs) (mi_okL_e)))) (mi_okS_e) (mi_al (ho.1) (mi_al (ho.2.1) (mi_al (ho.2.2.1) (mi_al (ho.2.2.2.1) (mi_al (ho.2.2.2.2.1) (mi_al (ho.2.2.2.2.2) (mi_al_e))))))) (fun h1 W _ hst => kon h1 W)
set_option maxRecDepth 20000 in
theorem mt_konC {h : sm_H} {d : Nat} {Q : Option mi_V → sm_H → Prop} {zn zs : Int} (hS : ab_Sh sx_sk h) (ok_zn : mi_in zn) (ok_zs : mi_in zs) (k0 : (zs ≤ ((0 : Int))) → (∀ h1, ab_Sh sx_sk h1 → ab_Fr [] h h1 → Q none h1)) (k1 : (((0 : Int)) < zs) → (zs ≤ zn) → ((zs ≠ 0) ∧ (-2147483648 ≤ ((48 : Int)) + ((Int32.ofInt ((Int32.ofInt zn / Int32.ofInt zs).toInt) - Int32.ofInt ((Int32.ofInt zn / Int32.ofInt zs).toInt) / Int32.ofInt ((10 : Int)) * Int32.ofInt ((10 : Int))).toInt) ∧ ((48 : Int)) + ((Int32.ofInt ((Int32.ofInt zn / Int32.ofInt zs).toInt) - Int32.ofInt ((Int32.ofInt zn / Int32.ofInt zs).toInt) / Int32.ofInt ((10 : Int)) * Int32.ofInt ((10 : Int))).toInt) ≤ 2147483647)) ∧ (∀ h1, ab_Sh sx_sk h1 → ab_Fr [] h h1 → me_E (d + 3) 138 33 [some (.inr (.inr 108)), some (.inl (zn)), some (.inl (zs))] [.inl (((48 : Int)) + ((Int32.ofInt ((Int32.ofInt zn / Int32.ofInt zs).toInt) - Int32.ofInt ((Int32.ofInt zn / Int32.ofInt zs).toInt) / Int32.ofInt ((10 : Int)) * Int32.ofInt ((10 : Int))).toInt)), .inr (.inr 108)] h1 Q)) (k2 : (((0 : Int)) < zs) → (zn < zs) → (zs ≠ ((1 : Int))) → (∀ h1, ab_Sh sx_sk h1 → ab_Fr [] h h1 → me_E (d + 3) 138 37 [some (.inr (.inr 108)), some (.inl (zn)), some (.inl (zs))] [] h1 Q)) (k3 : (((0 : Int)) < zs) → (zn < zs) → (zs = ((1 : Int))) → ((zs ≠ 0) ∧ (-2147483648 ≤ ((48 : Int)) + ((Int32.ofInt ((Int32.ofInt zn / Int32.ofInt zs).toInt) - Int32.ofInt ((Int32.ofInt zn / Int32.ofInt zs).toInt) / Int32.ofInt ((10 : Int)) * Int32.ofInt ((10 : Int))).toInt) ∧ ((48 : Int)) + ((Int32.ofInt ((Int32.ofInt zn / Int32.ofInt zs).toInt) - Int32.ofInt ((Int32.ofInt zn / Int32.ofInt zs).toInt) / Int32.ofInt ((10 : Int)) * Int32.ofInt ((10 : Int))).toInt) ≤ 2147483647)) ∧ (∀ h1, ab_Sh sx_sk h1 → ab_Fr [] h h1 → me_E (d + 3) 138 33 [some (.inr (.inr 108)), some (.inl (zn)), some (.inl (zs))] [.inl (((48 : Int)) + ((Int32.ofInt ((Int32.ofInt zn / Int32.ofInt zs).toInt) - Int32.ofInt ((Int32.ofInt zn / Int32.ofInt zs).toInt) / Int32.ofInt ((10 : Int)) * Int32.ofInt ((10 : Int))).toInt)), .inr (.inr 108)] h1 Q)) : me_E (d + 3) 138 9 [some (.inr (.inr 108)), some (.inl (zn)), some (.inl (zs))] [] h Q := Or.elim (mi_em .le (zs) (((0 : Int)))) (fun c0 => ms_konC_0 hS ok_zn ok_zs (c0) (fun h1 W => (k0 c0) h1 W.1 (W.2.2.2.2.2 _ rfl))) (fun c0 => Or.elim (mi_em .ge (zn) (zs)) (fun c1 => ms_konC_1 hS ok_zn ok_zs ⟨c0, c1, (k1 c0 c1).1.1, (by decide), (k1 c0 c1).1.2⟩ (fun h1 W => (k1 c0 c1).2 h1 W.1 (W.2.2.2.2.2 _ rfl))) (fun c1 => Or.elim (mi_em .ne (zs) (((1 : Int)))) (fun c2 => ms_konC_2 hS ok_zn ok_zs ⟨c0, c1, c2⟩ (fun h1 W => (k2 c0 c1 c2) h1 W.1 (W.2.2.2.2.2 _ rfl))) (fun c2 => ms_konC_3 hS ok_zn ok_zs ⟨c0, c1, c2, (k3 c0 c1 c2).1.1, (by decide), (k3 c0 c1 c2).1.2⟩ (fun h1 W => (k3 c0 c1 c2).2 h1 W.1 (W.2.2.2.2.2 _ rfl)))))
set_option maxRecDepth 20000 in
theorem mp_konE_0 (h : sm_H) (d : Nat) (zn zs zv : Int) : mj_path [(138, (3, 0, sb_138))] sx_sk h 0 [] (d + 3, 138, 34, [some (.inr (.inr 108)), some (.inl (zn)), some (.inl (zs))], [.inl (zv), .inr (.inr 108)], [], []) = some ((d + 3, 138, 34, [some (.inr (.inr 108)), some (.inl (zn)), some (.inl (zs))], [.inl (zv), .inr (.inr 108)], [], []), []) := rfl
theorem mi_tab_konE_0 : ∀ e ∈ ([(138, (3, 0, sb_138))] : mi_T), sc_P e.1 = some e.2 := mi_tb mi_P138 (mi_tb_e)
set_option maxRecDepth 20000 in
theorem ms_konE_0 {h : sm_H} {d : Nat} {Q : Option mi_V → sm_H → Prop} {zn zs zv : Int} (hS : ab_Sh sx_sk h) (ok_zn : mi_in zn) (ok_zs : mi_in zs) (ok_zv : mi_in zv) (kon : ∀ h1, me_W [] h h1 → ∃ Q1, me_E (d + 2) 140 0 (mi_entry 2 [.inr (.inr 108), .inl (zv)]) [] h1 Q1 ∧ ∀ w h2, (∀ x, w = some x → mi_ok x) → Q1 w h2 → me_E (d + 3) 138 37 [some (.inr (.inr 108)), some (.inl (zn)), some (.inl (zs))] (mi_back w []) h2 Q) : me_E (d + 3) 138 34 [some (.inr (.inr 108)), some (.inl (zn)), some (.inl (zs))] [.inl (zv), .inr (.inr 108)] h Q := mf_seg (mp_konE_0 h d zn zs zv) (mi_tab_konE_0) hS (mi_okL_c (trivial) (mi_okL_c (ok_zn) (mi_okL_c (ok_zs) (mi_okL_e)))) (mi_okS_cons (ok_zv) (mi_okS_cons (trivial) (mi_okS_e))) (mi_al_e) (fun h1 W _ hst => let ⟨_, k1, k2⟩ := kon h1 W; mf_call (M := (3, 0, sb_138)) (M' := (2, 0, sb_140)) rfl rfl rfl rfl (Nat.le_of_ble_eq_true rfl) (Nat.le_of_ble_eq_true rfl) W.1 k1 k2)
set_option maxRecDepth 20000 in
theorem mt_konE {h : sm_H} {d : Nat} {Q : Option mi_V → sm_H → Prop} {zn zs zv : Int} (hS : ab_Sh sx_sk h) (ok_zn : mi_in zn) (ok_zs : mi_in zs) (ok_zv : mi_in zv) (k0 : (∀ h1, ab_Sh sx_sk h1 → ab_Fr [] h h1 → ∃ Q1, me_E (d + 2) 140 0 (mi_entry 2 [.inr (.inr 108), .inl (zv)]) [] h1 Q1 ∧ ∀ w h2, (∀ x, w = some x → mi_ok x) → Q1 w h2 → me_E (d + 3) 138 37 [some (.inr (.inr 108)), some (.inl (zn)), some (.inl (zs))] (mi_back w []) h2 Q)) : me_E (d + 3) 138 34 [some (.inr (.inr 108)), some (.inl (zn)), some (.inl (zs))] [.inl (zv), .inr (.inr 108)] h Q := ms_konE_0 hS ok_zn ok_zs ok_zv (fun h1 W => (k0) h1 W.1 (W.2.2.2.2.2 _ rfl))
set_option maxRecDepth 20000 in
theorem mp_konD_0 (h : sm_H) (d : Nat) (zn zs : Int) : mj_path [(138, (3, 0, sb_138))] sx_sk h 5 [] (d + 3, 138, 37, [some (.inr (.inr 108)), some (.inl (zn)), some (.inl (zs))], [], [], []) = some ((d + 3, 138, 9, [some (.inr (.inr 108)), some (.inl (zn)), some (.inl ((Int32.ofInt zs / Int32.ofInt ((10 : Int))).toInt))], [], [], []), [((10 : Int)) ≠ 0]) := rfl
theorem mi_tab_konD_0 : ∀ e ∈ ([(138, (3, 0, sb_138))] : mi_T), sc_P e.1 = some e.2 := mi_tb mi_P138 (mi_tb_e)
set_option maxRecDepth 20000 in
theorem ms_konD_0 {h : sm_H} {d : Nat} {Q : Option mi_V → sm_H → Prop} {zn zs : Int} (hS : ab_Sh sx_sk h) (ok_zn : mi_in zn) (ok_zs : mi_in zs) (ho : (((10 : Int)) ≠ 0)) (kon : ∀ h1, me_W [] h h1 → me_E (d + 3) 138 9 [some (.inr (.inr 108)), some (.inl (zn)), some (.inl ((Int32.ofInt zs / Int32.ofInt ((10 : Int))).toInt))] [] h1 Q) : me_E (d + 3) 138 37 [some (.inr (.inr 108)), some (.inl (zn)), some (.inl (zs))] [] h Q := mf_seg (mp_konD_0 h d zn zs) (mi_tab_konD_0) hS (mi_okL_c (trivial) (mi_okL_c (ok_zn) (mi_okL_c (ok_zs) (mi_okL_e)))) (mi_okS_e) (mi_al (ho) (mi_al_e)) (fun h1 W _ hst => kon h1 W)
set_option maxRecDepth 20000 in
theorem mt_konD {h : sm_H} {d : Nat} {Q : Option mi_V → sm_H → Prop} {zn zs : Int} (hS : ab_Sh sx_sk h) (ok_zn : mi_in zn) (ok_zs : mi_in zs) (k0 : (∀ h1, ab_Sh sx_sk h1 → ab_Fr [] h h1 → me_E (d + 3) 138 9 [some (.inr (.inr 108)), some (.inl (zn)), some (.inl ((Int32.ofInt zs / Int32.ofInt ((10 : Int))).toInt))] [] h1 Q)) : me_E (d + 3) 138 37 [some (.inr (.inr 108)), some (.inl (zn)), some (.inl (zs))] [] h Q := ms_konD_0 hS ok_zn ok_zs ((by decide)) (fun h1 W => (k0) h1 W.1 (W.2.2.2.2.2 _ rfl))
set_option maxRecDepth 20000 in
theorem mp_kocA_0 (h : sm_H) (d : Nat) (zc : Int) : mj_path [(141, (4, 0, sb_141))] sx_sk h 4 [1] (d + 3, 141, 0, [some (.inr (.inr 108)), some (.inl (zc)), none, none], [], [], []) = some ((d + 3, 141, 10, [some (.inr (.inr 108)), some (.inl (zc)), none, none], [.inl ((0 : Int)), .inr (.inr 108)], [], []), [zc ≤ ((0 : Int))]) := rfl
theorem mi_tab_kocA_0 : ∀ e ∈ ([(141, (4, 0, sb_141))] : mi_T), sc_P e.1 = some e.2 := mi_tb mi_P141 (mi_tb_e)
set_option maxRecDepth 20000 in
theorem ms_kocA_0 {h : sm_H} {d : Nat} {Q : Option mi_V → sm_H → Prop} {zc : Int} (hS : ab_Sh sx_sk h) (ok_zc : mi_in zc) (ho : (zc ≤ ((0 : Int)))) (kon : ∀ h1, me_W [] h h1 → ∃ Q1, me_E (d + 2) 139 0 (mi_entry 3 [.inr (.inr 108), .inl ((0 : Int))]) [] h1 Q1 ∧ ∀ w h2, (∀ x, w = some x → mi_ok x) → Q1 w h2 → me_E (d + 3) 141 13 [some (.inr (.inr 108)), some (.inl (zc)), none, none] (mi_back w []) h2 Q) : me_E (d + 3) 141 0 [some (.inr (.inr 108)), some (.inl (zc)), none, none] [] h Q := mf_seg (mp_kocA_0 h d zc) (mi_tab_kocA_0) hS (mi_okL_c (trivial) (mi_okL_c (ok_zc) (mi_okL_n (mi_okL_n (mi_okL_e))))) (mi_okS_e) (mi_al (ho) (mi_al_e)) (fun h1 W _ hst => let ⟨_, k1, k2⟩ := kon h1 W; mf_call (M := (4, 0, sb_141)) (M' := (3, 0, sb_139)) rfl rfl rfl rfl (Nat.le_of_ble_eq_true rfl) (Nat.le_of_ble_eq_true rfl) W.1 k1 k2)
set_option maxRecDepth 20000 in
theorem mp_kocA_1 (h : sm_H) (d : Nat) (zc : Int) : mj_path [(141, (4, 0, sb_141))] sx_sk h 5 [0] (d + 3, 141, 0, [some (.inr (.inr 108)), some (.inl (zc)), none, none], [], [], []) = some ((d + 3, 141, 10, [some (.inr (.inr 108)), some (.inl (zc)), none, none], [.inl ((1 : Int)), .inr (.inr 108)], [], []), [((0 : Int)) < zc]) := rfl
theorem mi_tab_kocA_1 : ∀ e ∈ ([(141, (4, 0, sb_141))] : mi_T), sc_P e.1 = some e.2 := mi_tb mi_P141 (mi_tb_e)
set_option maxRecDepth 20000 in
theorem ms_kocA_1 {h : sm_H} {d : Nat} {Q : Option mi_V → sm_H → Prop} {zc : Int} (hS : ab_Sh sx_sk h) (ok_zc : mi_in zc) (ho : (((0 : Int)) < zc)) (kon : ∀ h1, me_W [] h h1 → ∃ Q1, me_E (d + 2) 139 0 (mi_entry 3 [.inr (.inr 108), .inl ((1 : Int))]) [] h1 Q1 ∧ ∀ w h2, (∀ x, w = some x → mi_ok x) → Q1 w h2 → me_E (d + 3) 141 13 [some (.inr (.inr 108)), some (.inl (zc)), none, none] (mi_back w []) h2 Q) : me_E (d + 3) 141 0 [some (.inr (.inr 108)), some (.inl (zc)), none, none] [] h Q := mf_seg (mp_kocA_1 h d zc) (mi_tab_kocA_1) hS (mi_okL_c (trivial) (mi_okL_c (ok_zc) (mi_okL_n (mi_okL_n (mi_okL_e))))) (mi_okS_e) (mi_al (ho) (mi_al_e)) (fun h1 W _ hst => let ⟨_, k1, k2⟩ := kon h1 W; mf_call (M := (4, 0, sb_141)) (M' := (3, 0, sb_139)) rfl rfl rfl rfl (Nat.le_of_ble_eq_true rfl) (Nat.le_of_ble_eq_true rfl) W.1 k1 k2)
set_option maxRecDepth 20000 in
theorem mt_kocA {h : sm_H} {d : Nat} {Q : Option mi_V → sm_H → Prop} {zc : Int} (hS : ab_Sh sx_sk h) (ok_zc : mi_in zc) (k0 : (zc ≤ ((0 : Int))) → (∀ h1, ab_Sh sx_sk h1 → ab_Fr [] h h1 → ∃ Q1, me_E (d + 2) 139 0 (mi_entry 3 [.inr (.inr 108), .inl ((0 : Int))]) [] h1 Q1 ∧ ∀ w h2, (∀ x, w = some x → mi_ok x) → Q1 w h2 → me_E (d + 3) 141 13 [some (.inr (.inr 108)), some (.inl (zc)), none, none] (mi_back w []) h2 Q)) (k1 : (((0 : Int)) < zc) → (∀ h1, ab_Sh sx_sk h1 → ab_Fr [] h h1 → ∃ Q1, me_E (d + 2) 139 0 (mi_entry 3 [.inr (.inr 108), .inl ((1 : Int))]) [] h1 Q1 ∧ ∀ w h2, (∀ x, w = some x → mi_ok x) → Q1 w h2 → me_E (d + 3) 141 13 [some (.inr (.inr 108)), some (.inl (zc)), none, none] (mi_back w []) h2 Q)) : me_E (d + 3) 141 0 [some (.inr (.inr 108)), some (.inl (zc)), none, none] [] h Q := Or.elim (mi_em .le (zc) (((0 : Int)))) (fun c0 => ms_kocA_0 hS ok_zc (c0) (fun h1 W => (k0 c0) h1 W.1 (W.2.2.2.2.2 _ rfl))) (fun c0 => ms_kocA_1 hS ok_zc (c0) (fun h1 W => (k1 c0) h1 W.1 (W.2.2.2.2.2 _ rfl)))
set_option maxRecDepth 20000 in
theorem mp_kocB_0 (h : sm_H) (d : Nat) (zc : Int) : mj_path [(141, (4, 0, sb_141))] sx_sk h 2 [1] (d + 3, 141, 13, [some (.inr (.inr 108)), some (.inl (zc)), none, none], [], [], []) = some ((d + 3, 141, 24, [some (.inr (.inr 108)), some (.inl (zc)), none, none], [], [], []), [((0 : Int)) ≤ zc]) := rfl
theorem mi_tab_kocB_0 : ∀ e ∈ ([(141, (4, 0, sb_141))] : mi_T), sc_P e.1 = some e.2 := mi_tb mi_P141 (mi_tb_e)
set_option maxRecDepth 20000 in
theorem ms_kocB_0 {h : sm_H} {d : Nat} {Q : Option mi_V → sm_H → Prop} {zc : Int} (hS : ab_Sh sx_sk h) (ok_zc : mi_in zc) (ho : (((0 : Int)) ≤ zc)) (kon : ∀ h1, me_W [] h h1 → me_E (d + 3) 141 24 [some (.inr (.inr 108)), some (.inl (zc)), none, none] [] h1 Q) : me_E (d + 3) 141 13 [some (.inr (.inr 108)), some (.inl (zc)), none, none] [] h Q := mf_seg (mp_kocB_0 h d zc) (mi_tab_kocB_0) hS (mi_okL_c (trivial) (mi_okL_c (ok_zc) (mi_okL_n (mi_okL_n (mi_okL_e))))) (mi_okS_e) (mi_al (ho) (mi_al_e)) (fun h1 W _ hst => kon h1 W)
set_option maxRecDepth 20000 in
theorem mp_kocB_1 (h : sm_H) (d : Nat) (zc : Int) : mj_path [(141, (4, 0, sb_141))] sx_sk h 5 [0] (d + 3, 141, 13, [some (.inr (.inr 108)), some (.inl (zc)), none, none], [], [], []) = some ((d + 3, 141, 20, [some (.inr (.inr 108)), some (.inl (zc)), none, none], [.inl (-zc), .inr (.inr 108)], [], []), [zc < ((0 : Int)), -2147483648 ≤ (-zc) ∧ (-zc) ≤ 2147483647]) := rfl
theorem mi_tab_kocB_1 : ∀ e ∈ ([(141, (4, 0, sb_141))] : mi_T), sc_P e.1 = some e.2 := mi_tb mi_P141 (mi_tb_e)
set_option maxRecDepth 20000 in
theorem ms_kocB_1 {h : sm_H} {d : Nat} {Q : Option mi_V → sm_H → Prop} {zc : Int} (hS : ab_Sh sx_sk h) (ok_zc : mi_in zc) (ho : (zc < ((0 : Int))) ∧ (-2147483648 ≤ (-zc) ∧ (-zc) ≤ 2147483647)) (kon : ∀ h1, me_W [] h h1 → me_E (d + 3) 141 20 [some (.inr (.inr 108)), some (.inl (zc)), none, none] [.inl (-zc), .inr (.inr 108)] h1 Q) : me_E (d + 3) 141 13 [some (.inr (.inr 108)), some (.inl (zc)), none, none] [] h Q := mf_seg (mp_kocB_1 h d zc) (mi_tab_kocB_1) hS (mi_okL_c (trivial) (mi_okL_c (ok_zc) (mi_okL_n (mi_okL_n (mi_okL_e))))) (mi_okS_e) (mi_al (ho.1) (mi_al (ho.2) (mi_al_e))) (fun h1 W _ hst => kon h1 W)
set_option maxRecDepth 20000 in
theorem mt_kocB {h : sm_H} {d : Nat} {Q : Option mi_V → sm_H → Prop} {zc : Int} (hS : ab_Sh sx_sk h) (ok_zc : mi_in zc) (k0 : (((0 : Int)) ≤ zc) → (∀ h1, ab_Sh sx_sk h1 → ab_Fr [] h h1 → me_E (d + 3) 141 24 [some (.inr (.inr 108)), some (.inl (zc)), none, none] [] h1 Q)) (k1 : (zc < ((0 : Int))) → ((-2147483648 ≤ (-zc) ∧ (-zc) ≤ 2147483647)) ∧ (∀ h1, ab_Sh sx_sk h1 → ab_Fr [] h h1 → me_E (d + 3) 141 20 [some (.inr (.inr 108)), some (.inl (zc)), none, none] [.inl (-zc), .inr (.inr 108)] h1 Q)) : me_E (d + 3) 141 13 [some (.inr (.inr 108)), some (.inl (zc)), none, none] [] h Q := Or.elim (mi_em .ge (zc) (((0 : Int)))) (fun c0 => ms_kocB_0 hS ok_zc (c0) (fun h1 W => (k0 c0) h1 W.1 (W.2.2.2.2.2 _ rfl))) (fun c0 => ms_kocB_1 hS ok_zc ⟨c0, (k1 c0).1⟩ (fun h1 W => (k1 c0).2 h1 W.1 (W.2.2.2.2.2 _ rfl)))
set_option maxRecDepth 20000 in
theorem mp_kocF_0 (h : sm_H) (d : Nat) (zc zv : Int) : mj_path [(141, (4, 0, sb_141))] sx_sk h 0 [] (d + 3, 141, 21, [some (.inr (.inr 108)), some (.inl (zc)), none, none], [.inl (zv), .inr (.inr 108)], [], []) = some ((d + 3, 141, 21, [some (.inr (.inr 108)), some (.inl (zc)), none, none], [.inl (zv), .inr (.inr 108)], [], []), []) := rfl
theorem mi_tab_kocF_0 : ∀ e ∈ ([(141, (4, 0, sb_141))] : mi_T), sc_P e.1 = some e.2 := mi_tb mi_P141 (mi_tb_e)
set_option maxRecDepth 20000 in
theorem ms_kocF_0 {h : sm_H} {d : Nat} {Q : Option mi_V → sm_H → Prop} {zc zv : Int} (hS : ab_Sh sx_sk h) (ok_zc : mi_in zc) (ok_zv : mi_in zv) (kon : ∀ h1, me_W [] h h1 → ∃ Q1, me_E (d + 2) 140 0 (mi_entry 2 [.inr (.inr 108), .inl (zv)]) [] h1 Q1 ∧ ∀ w h2, (∀ x, w = some x → mi_ok x) → Q1 w h2 → me_E (d + 3) 141 24 [some (.inr (.inr 108)), some (.inl (zc)), none, none] (mi_back w []) h2 Q) : me_E (d + 3) 141 21 [some (.inr (.inr 108)), some (.inl (zc)), none, none] [.inl (zv), .inr (.inr 108)] h Q := mf_seg (mp_kocF_0 h d zc zv) (mi_tab_kocF_0) hS (mi_okL_c (trivial) (mi_okL_c (ok_zc) (mi_okL_n (mi_okL_n (mi_okL_e))))) (mi_okS_cons (ok_zv) (mi_okS_cons (trivial) (mi_okS_e))) (mi_al_e) (fun h1 W _ hst => let ⟨_, k1, k2⟩ := kon h1 W; mf_call (M := (4, 0, sb_141)) (M' := (2, 0, sb_140)) rfl rfl rfl rfl (Nat.le_of_ble_eq_true rfl) (Nat.le_of_ble_eq_true rfl) W.1 k1 k2)
set_option maxRecDepth 20000 in
theorem mt_kocF {h : sm_H} {d : Nat} {Q : Option mi_V → sm_H → Prop} {zc zv : Int} (hS : ab_Sh sx_sk h) (ok_zc : mi_in zc) (ok_zv : mi_in zv) (k0 : (∀ h1, ab_Sh sx_sk h1 → ab_Fr [] h h1 → ∃ Q1, me_E (d + 2) 140 0 (mi_entry 2 [.inr (.inr 108), .inl (zv)]) [] h1 Q1 ∧ ∀ w h2, (∀ x, w = some x → mi_ok x) → Q1 w h2 → me_E (d + 3) 141 24 [some (.inr (.inr 108)), some (.inl (zc)), none, none] (mi_back w []) h2 Q)) : me_E (d + 3) 141 21 [some (.inr (.inr 108)), some (.inl (zc)), none, none] [.inl (zv), .inr (.inr 108)] h Q := ms_kocF_0 hS ok_zc ok_zv (fun h1 W => (k0) h1 W.1 (W.2.2.2.2.2 _ rfl))
set_option maxRecDepth 20000 in
theorem mp_kocC_0 (h : sm_H) (d : Nat) (zc : Int) : mj_path [(141, (4, 0, sb_141))] sx_sk h 6 [1] (d + 3, 141, 24, [some (.inr (.inr 108)), some (.inl (zc)), none, none], [], [], []) = some ((d + 3, 141, 32, [some (.inr (.inr 108)), some (.inl (zc)), some (.inl ((0 : Int))), some (.inl ((0 : Int)))], [], [], []), [zc < ((0 : Int))]) := rfl
theorem mi_tab_kocC_0 : ∀ e ∈ ([(141, (4, 0, sb_141))] : mi_T), sc_P e.1 = some e.2 := mi_tb mi_P141 (mi_tb_e)
set_option maxRecDepth 20000 in
theorem ms_kocC_0 {h : sm_H} {d : Nat} {Q : Option mi_V → sm_H → Prop} {zc : Int} (hS : ab_Sh sx_sk h) (ok_zc : mi_in zc) (ho : (zc < ((0 : Int)))) (kon : ∀ h1, me_W [] h h1 → me_E (d + 3) 141 32 [some (.inr (.inr 108)), some (.inl (zc)), some (.inl ((0 : Int))), some (.inl ((0 : Int)))] [] h1 Q) : me_E (d + 3) 141 24 [some (.inr (.inr 108)), some (.inl (zc)), none, none] [] h Q := mf_seg (mp_kocC_0 h d zc) (mi_tab_kocC_0) hS (mi_okL_c (trivial) (mi_okL_c (ok_zc) (mi_okL_n (mi_okL_n (mi_okL_e))))) (mi_okS_e) (mi_al (ho) (mi_al_e)) (fun h1 W _ hst => kon h1 W)
set_option maxRecDepth 20000 in
theorem mp_kocC_1 (h : sm_H) (d : Nat) (zc : Int) : mj_path [(141, (4, 0, sb_141))] sx_sk h 6 [0] (d + 3, 141, 24, [some (.inr (.inr 108)), some (.inl (zc)), none, none], [], [], []) = some ((d + 3, 141, 32, [some (.inr (.inr 108)), some (.inl (zc)), some (.inl (zc)), some (.inl ((0 : Int)))], [], [], []), [((0 : Int)) ≤ zc]) := rfl
theorem mi_tab_kocC_1 : ∀ e ∈ ([(141, (4, 0, sb_141))] : mi_T), sc_P e.1 = some e.2 := mi_tb mi_P141 (mi_tb_e)
set_option maxRecDepth 20000 in
theorem ms_kocC_1 {h : sm_H} {d : Nat} {Q : Option mi_V → sm_H → Prop} {zc : Int} (hS : ab_Sh sx_sk h) (ok_zc : mi_in zc) (ho : (((0 : Int)) ≤ zc)) (kon : ∀ h1, me_W [] h h1 → me_E (d + 3) 141 32 [some (.inr (.inr 108)), some (.inl (zc)), some (.inl (zc)), some (.inl ((0 : Int)))] [] h1 Q) : me_E (d + 3) 141 24 [some (.inr (.inr 108)), some (.inl (zc)), none, none] [] h Q := mf_seg (mp_kocC_1 h d zc) (mi_tab_kocC_1) hS (mi_okL_c (trivial) (mi_okL_c (ok_zc) (mi_okL_n (mi_okL_n (mi_okL_e))))) (mi_okS_e) (mi_al (ho) (mi_al_e)) (fun h1 W _ hst => kon h1 W)
set_option maxRecDepth 20000 in
theorem mt_kocC {h : sm_H} {d : Nat} {Q : Option mi_V → sm_H → Prop} {zc : Int} (hS : ab_Sh sx_sk h) (ok_zc : mi_in zc) (k0 : (zc < ((0 : Int))) → (∀ h1, ab_Sh sx_sk h1 → ab_Fr [] h h1 → me_E (d + 3) 141 32 [some (.inr (.inr 108)), some (.inl (zc)), some (.inl ((0 : Int))), some (.inl ((0 : Int)))] [] h1 Q)) (k1 : (((0 : Int)) ≤ zc) → (∀ h1, ab_Sh sx_sk h1 → ab_Fr [] h h1 → me_E (d + 3) 141 32 [some (.inr (.inr 108)), some (.inl (zc)), some (.inl (zc)), some (.inl ((0 : Int)))] [] h1 Q)) : me_E (d + 3) 141 24 [some (.inr (.inr 108)), some (.inl (zc)), none, none] [] h Q := Or.elim (mi_em .lt (zc) (((0 : Int)))) (fun c0 => ms_kocC_0 hS ok_zc (c0) (fun h1 W => (k0 c0) h1 W.1 (W.2.2.2.2.2 _ rfl))) (fun c0 => ms_kocC_1 hS ok_zc (c0) (fun h1 W => (k1 c0) h1 W.1 (W.2.2.2.2.2 _ rfl)))
set_option maxRecDepth 20000 in
theorem mp_kocD_0 (h : sm_H) (d : Nat) (zc zr zk : Int) : mj_path [(141, (4, 0, sb_141))] sx_sk h 3 [1] (d + 3, 141, 32, [some (.inr (.inr 108)), some (.inl (zc)), some (.inl (zr)), some (.inl (zk))], [], [], []) = some ((d + 3, 141, 64, [some (.inr (.inr 108)), some (.inl (zc)), some (.inl (zr)), some (.inl (zk))], [], [], []), [((6 : Int)) ≤ zk]) := rfl
theorem mi_tab_kocD_0 : ∀ e ∈ ([(141, (4, 0, sb_141))] : mi_T), sc_P e.1 = some e.2 := mi_tb mi_P141 (mi_tb_e)
set_option maxRecDepth 20000 in
theorem ms_kocD_0 {h : sm_H} {d : Nat} {Q : Option mi_V → sm_H → Prop} {zc zr zk : Int} (hS : ab_Sh sx_sk h) (ok_zc : mi_in zc) (ok_zr : mi_in zr) (ok_zk : mi_in zk) (ho : (((6 : Int)) ≤ zk)) (kon : ∀ h1, me_W [] h h1 → Q none h1) : me_E (d + 3) 141 32 [some (.inr (.inr 108)), some (.inl (zc)), some (.inl (zr)), some (.inl (zk))] [] h Q := mf_seg (mp_kocD_0 h d zc zr zk) (mi_tab_kocD_0) hS (mi_okL_c (trivial) (mi_okL_c (ok_zc) (mi_okL_c (ok_zr) (mi_okL_c (ok_zk) (mi_okL_e))))) (mi_okS_e) (mi_al (ho) (mi_al_e)) (fun h1 W _ hst => mf_ret (M := (4, 0, sb_141)) rfl rfl rfl hst (mi_al_e) (kon h1 W))
set_option maxRecDepth 20000 in
theorem mp_kocD_1 (h : sm_H) (d : Nat) (zc zr zk : Int) : mj_path [(141, (4, 0, sb_141))] sx_sk h 5 [0, 1] (d + 3, 141, 32, [some (.inr (.inr 108)), some (.inl (zc)), some (.inl (zr)), some (.inl (zk))], [], [], []) = some ((d + 3, 141, 64, [some (.inr (.inr 108)), some (.inl (zc)), some (.inl (zr)), some (.inl (zk))], [], [], []), [zk < ((6 : Int)), zr = ((0 : Int))]) := rfl
theorem mi_tab_kocD_1 : ∀ e ∈ ([(141, (4, 0, sb_141))] : mi_T), sc_P e.1 = some e.2 := mi_tb mi_P141 (mi_tb_e)
set_option maxRecDepth 20000 in
theorem ms_kocD_1 {h : sm_H} {d : Nat} {Q : Option mi_V → sm_H → Prop} {zc zr zk : Int} (hS : ab_Sh sx_sk h) (ok_zc : mi_in zc) (ok_zr : mi_in zr) (ok_zk : mi_in zk) (ho : (zk < ((6 : Int))) ∧ (zr = ((0 : Int)))) (kon : ∀ h1, me_W [] h h1 → Q none h1) : me_E (d + 3) 141 32 [some (.inr (.inr 108)), some (.inl (zc)), some (.inl (zr)), some (.inl (zk))] [] h Q := mf_seg (mp_kocD_1 h d zc zr zk) (mi_tab_kocD_1) hS (mi_okL_c (trivial) (mi_okL_c (ok_zc) (mi_okL_c (ok_zr) (mi_okL_c (ok_zk) (mi_okL_e))))) (mi_okS_e) (mi_al (ho.1) (mi_al (ho.2) (mi_al_e))) (fun h1 W _ hst => mf_ret (M := (4, 0, sb_141)) rfl rfl rfl hst (mi_al_e) (kon h1 W))
set_option maxRecDepth 20000 in
theorem mp_kocD_2 (h : sm_H) (d : Nat) (zc zr zk : Int) : mj_path [(141, (4, 0, sb_141))] sx_sk h 11 [0, 0, 8] (d + 3, 141, 32, [some (.inr (.inr 108)), some (.inl (zc)), some (.inl (zr)), some (.inl (zk))], [], [], []) = some ((d + 3, 141, 50, [some (.inr (.inr 108)), some (.inl (zc)), some (.inl (zr)), some (.inl (zk))], [.inl (((96 : Int)) + ((Int32.ofInt zr &&& Int32.ofInt ((31 : Int))).toInt)), .inr (.inr 108)], [], []), [zk < ((6 : Int)), zr ≠ ((0 : Int)), -2147483648 ≤ ((96 : Int)) + ((Int32.ofInt zr &&& Int32.ofInt ((31 : Int))).toInt) ∧ ((96 : Int)) + ((Int32.ofInt zr &&& Int32.ofInt ((31 : Int))).toInt) ≤ 2147483647]) := rfl
theorem mi_tab_kocD_2 : ∀ e ∈ ([(141, (4, 0, sb_141))] : mi_T), sc_P e.1 = some e.2 := mi_tb mi_P141 (mi_tb_e)
set_option maxRecDepth 20000 in
theorem ms_kocD_2 {h : sm_H} {d : Nat} {Q : Option mi_V → sm_H → Prop} {zc zr zk : Int} (hS : ab_Sh sx_sk h) (ok_zc : mi_in zc) (ok_zr : mi_in zr) (ok_zk : mi_in zk) (ho : (zk < ((6 : Int))) ∧ (zr ≠ ((0 : Int))) ∧ (-2147483648 ≤ ((96 : Int)) + ((Int32.ofInt zr &&& Int32.ofInt ((31 : Int))).toInt) ∧ ((96 : Int)) + ((Int32.ofInt zr &&& Int32.ofInt ((31 : Int))).toInt) ≤ 2147483647)) (kon : ∀ h1, me_W [] h h1 → me_E (d + 3) 141 50 [some (.inr (.inr 108)), some (.inl (zc)), some (.inl (zr)), some (.inl (zk))] [.inl (((96 : Int)) + ((Int32.ofInt zr &&& Int32.ofInt ((31 : Int))).toInt)), .inr (.inr 108)] h1 Q) : me_E (d + 3) 141 32 [some (.inr (.inr 108)), some (.inl (zc)), some (.inl (zr)), some (.inl (zk))] [] h Q := mf_seg (mp_kocD_2 h d zc zr zk) (mi_tab_kocD_2) hS (mi_okL_c (trivial) (mi_okL_c (ok_zc) (mi_okL_c (ok_zr) (mi_okL_c (ok_zk) (mi_okL_e))))) (mi_okS_e) (mi_al (ho.1) (mi_al (ho.2.1) (mi_al (ho.2.2) (mi_al_e)))) (fun h1 W _ hst => kon h1 W)
set_option maxRecDepth 20000 in
theorem mt_kocD {h : sm_H} {d : Nat} {Q : Option mi_V → sm_H → Prop} {zc zr zk : Int} (hS : ab_Sh sx_sk h) (ok_zc : mi_in zc) (ok_zr : mi_in zr) (ok_zk : mi_in zk) (k0 : (((6 : Int)) ≤ zk) → (∀ h1, ab_Sh sx_sk h1 → ab_Fr [] h h1 → Q none h1)) (k1 : (zk < ((6 : Int))) → (zr = ((0 : Int))) → (∀ h1, ab_Sh sx_sk h1 → ab_Fr [] h h1 → Q none h1)) (k2 : (zk < ((6 : Int))) → (zr ≠ ((0 : Int))) → ((-2147483648 ≤ ((96 : Int)) + ((Int32.ofInt zr &&& Int32.ofInt ((31 : Int))).toInt) ∧ ((96 : Int)) + ((Int32.ofInt zr &&& Int32.ofInt ((31 : Int))).toInt) ≤ 2147483647)) ∧ (∀ h1, ab_Sh sx_sk h1 → ab_Fr [] h h1 → me_E (d + 3) 141 50 [some (.inr (.inr 108)), some (.inl (zc)), some (.inl (zr)), some (.inl (zk))] [.inl (((96 : Int)) + ((Int32.ofInt zr &&& Int32.ofInt ((31 : Int))).toInt)), .inr (.inr 108)] h1 Q)) : me_E (d + 3) 141 32 [some (.inr (.inr 108)), some (.inl (zc)), some (.inl (zr)), some (.inl (zk))] [] h Q := Or.elim (mi_em .ge (zk) (((6 : Int)))) (fun c0 => ms_kocD_0 hS ok_zc ok_zr ok_zk (c0) (fun h1 W => (k0 c0) h1 W.1 (W.2.2.2.2.2 _ rfl))) (fun c0 => Or.elim (mi_em .eq (zr) (((0 : Int)))) (fun c1 => ms_kocD_1 hS ok_zc ok_zr ok_zk ⟨c0, c1⟩ (fun h1 W => (k1 c0 c1) h1 W.1 (W.2.2.2.2.2 _ rfl))) (fun c1 => ms_kocD_2 hS ok_zc ok_zr ok_zk ⟨c0, c1, (k2 c0 c1).1⟩ (fun h1 W => (k2 c0 c1).2 h1 W.1 (W.2.2.2.2.2 _ rfl))))
set_option maxRecDepth 20000 in
theorem mp_kocG_0 (h : sm_H) (d : Nat) (zc zr zk zv : Int) : mj_path [(141, (4, 0, sb_141))] sx_sk h 0 [] (d + 3, 141, 51, [some (.inr (.inr 108)), some (.inl (zc)), some (.inl (zr)), some (.inl (zk))], [.inl (zv), .inr (.inr 108)], [], []) = some ((d + 3, 141, 51, [some (.inr (.inr 108)), some (.inl (zc)), some (.inl (zr)), some (.inl (zk))], [.inl (zv), .inr (.inr 108)], [], []), []) := rfl
theorem mi_tab_kocG_0 : ∀ e ∈ ([(141, (4, 0, sb_141))] : mi_T), sc_P e.1 = some e.2 := mi_tb mi_P141 (mi_tb_e)
set_option maxRecDepth 20000 in
theorem ms_kocG_0 {h : sm_H} {d : Nat} {Q : Option mi_V → sm_H → Prop} {zc zr zk zv : Int} (hS : ab_Sh sx_sk h) (ok_zc : mi_in zc) (ok_zr : mi_in zr) (ok_zk : mi_in zk) (ok_zv : mi_in zv) (kon : ∀ h1, me_W [] h h1 → ∃ Q1, me_E (d + 2) 140 0 (mi_entry 2 [.inr (.inr 108), .inl (zv)]) [] h1 Q1 ∧ ∀ w h2, (∀ x, w = some x → mi_ok x) → Q1 w h2 → me_E (d + 3) 141 54 [some (.inr (.inr 108)), some (.inl (zc)), some (.inl (zr)), some (.inl (zk))] (mi_back w []) h2 Q) : me_E (d + 3) 141 51 [some (.inr (.inr 108)), some (.inl (zc)), some (.inl (zr)), some (.inl (zk))] [.inl (zv), .inr (.inr 108)] h Q := mf_seg (mp_kocG_0 h d zc zr zk zv) (mi_tab_kocG_0) hS (mi_okL_c (trivial) (mi_okL_c (ok_zc) (mi_okL_c (ok_zr) (mi_okL_c (ok_zk) (mi_okL_e))))) (mi_okS_cons (ok_zv) (mi_okS_cons (trivial) (mi_okS_e))) (mi_al_e) (fun h1 W _ hst => let ⟨_, k1, k2⟩ := kon h1 W; mf_call (M := (4, 0, sb_141)) (M' := (2, 0, sb_140)) rfl rfl rfl rfl (Nat.le_of_ble_eq_true rfl) (Nat.le_of_ble_eq_true rfl) W.1 k1 k2)
set_option maxRecDepth 20000 in
theorem mt_kocG {h : sm_H} {d : Nat} {Q : Option mi_V → sm_H → Prop} {zc zr zk zv : Int} (hS : ab_Sh sx_sk h) (ok_zc : mi_in zc) (ok_zr : mi_in zr) (ok_zk : mi_in zk) (ok_zv : mi_in zv) (k0 : (∀ h1, ab_Sh sx_sk h1 → ab_Fr [] h h1 → ∃ Q1, me_E (d + 2) 140 0 (mi_entry 2 [.inr (.inr 108), .inl (zv)]) [] h1 Q1 ∧ ∀ w h2, (∀ x, w = some x → mi_ok x) → Q1 w h2 → me_E (d + 3) 141 54 [some (.inr (.inr 108)), some (.inl (zc)), some (.inl (zr)), some (.inl (zk))] (mi_back w []) h2 Q)) : me_E (d + 3) 141 51 [some (.inr (.inr 108)), some (.inl (zc)), some (.inl (zr)), some (.inl (zk))] [.inl (zv), .inr (.inr 108)] h Q := ms_kocG_0 hS ok_zc ok_zr ok_zk ok_zv (fun h1 W => (k0) h1 W.1 (W.2.2.2.2.2 _ rfl))
set_option maxRecDepth 20000 in
theorem mp_kocE_0 (h : sm_H) (d : Nat) (zc zr zk : Int) : mj_path [(141, (4, 0, sb_141))] sx_sk h 2 [] (d + 3, 141, 54, [some (.inr (.inr 108)), some (.inl (zc)), some (.inl (zr)), some (.inl (zk))], [], [], []) = some ((d + 3, 141, 56, [some (.inr (.inr 108)), some (.inl (zc)), some (.inl (zr)), some (.inl (zk))], [.inl ((5 : Int)), .inl (zr)], [], []), []) := rfl
theorem mi_tab_kocE_0 : ∀ e ∈ ([(141, (4, 0, sb_141))] : mi_T), sc_P e.1 = some e.2 := mi_tb mi_P141 (mi_tb_e)
set_option maxRecDepth 20000 in
theorem ms_kocE_0 {h : sm_H} {d : Nat} {Q : Option mi_V → sm_H → Prop} {zc zr zk : Int} (hS : ab_Sh sx_sk h) (ok_zc : mi_in zc) (ok_zr : mi_in zr) (ok_zk : mi_in zk) (kon : ∀ h1, me_W [] h h1 → me_E (d + 3) 141 56 [some (.inr (.inr 108)), some (.inl (zc)), some (.inl (zr)), some (.inl (zk))] [.inl ((5 : Int)), .inl (zr)] h1 Q) : me_E (d + 3) 141 54 [some (.inr (.inr 108)), some (.inl (zc)), some (.inl (zr)), some (.inl (zk))] [] h Q := mf_seg (mp_kocE_0 h d zc zr zk) (mi_tab_kocE_0) hS (mi_okL_c (trivial) (mi_okL_c (ok_zc) (mi_okL_c (ok_zr) (mi_okL_c (ok_zk) (mi_okL_e))))) (mi_okS_e) (mi_al_e) (fun h1 W _ hst => kon h1 W)
set_option maxRecDepth 20000 in
theorem mt_kocE {h : sm_H} {d : Nat} {Q : Option mi_V → sm_H → Prop} {zc zr zk : Int} (hS : ab_Sh sx_sk h) (ok_zc : mi_in zc) (ok_zr : mi_in zr) (ok_zk : mi_in zk) (k0 : (∀ h1, ab_Sh sx_sk h1 → ab_Fr [] h h1 → me_E (d + 3) 141 56 [some (.inr (.inr 108)), some (.inl (zc)), some (.inl (zr)), some (.inl (zk))] [.inl ((5 : Int)), .inl (zr)] h1 Q)) : me_E (d + 3) 141 54 [some (.inr (.inr 108)), some (.inl (zc)), some (.inl (zr)), some (.inl (zk))] [] h Q := ms_kocE_0 hS ok_zc ok_zr ok_zk (fun h1 W => (k0) h1 W.1 (W.2.2.2.2.2 _ rfl))
set_option maxRecDepth 20000 in
theorem mp_kocH_0 (h : sm_H) (d : Nat) (zc zr zk zz : Int) : mj_path [(141, (4, 0, sb_141))] sx_sk h 3 [] (d + 3, 141, 57, [some (.inr (.inr 108)), some (.inl (zc)), some (.inl (zr)), some (.inl (zk))], [.inl (zz)], [], []) = some ((d + 3, 141, 32, [some (.inr (.inr 108)), some (.inl (zc)), some (.inl (zz)), some (.inl (zk + 1))], [], [], []), [-2147483648 ≤ zk + 1 ∧ zk + 1 ≤ 2147483647]) := rfl
theorem mi_tab_kocH_0 : ∀ e ∈ ([(141, (4, 0, sb_141))] : mi_T), sc_P e.1 = some e.2 := mi_tb mi_P141 (mi_tb_e)
set_option maxRecDepth 20000 in
theorem ms_kocH_0 {h : sm_H} {d : Nat} {Q : Option mi_V → sm_H → Prop} {zc zr zk zz : Int} (hS : ab_Sh sx_sk h) (ok_zc : mi_in zc) (ok_zr : mi_in zr) (ok_zk : mi_in zk) (ok_zz : mi_in zz) (ho : (-2147483648 ≤ zk + 1 ∧ zk + 1 ≤ 2147483647)) (kon : ∀ h1, me_W [] h h1 → me_E (d + 3) 141 32 [some (.inr (.inr 108)), some (.inl (zc)), some (.inl (zz)), some (.inl (zk + 1))] [] h1 Q) : me_E (d + 3) 141 57 [some (.inr (.inr 108)), some (.inl (zc)), some (.inl (zr)), some (.inl (zk))] [.inl (zz)] h Q := mf_seg (mp_kocH_0 h d zc zr zk zz) (mi_tab_kocH_0) hS (mi_okL_c (trivial) (mi_okL_c (ok_zc) (mi_okL_c (ok_zr) (mi_okL_c (ok_zk) (mi_okL_e))))) (mi_okS_cons (ok_zz) (mi_okS_e)) (mi_al (ho) (mi_al_e)) (fun h1 W _ hst => kon h1 W)
set_option maxRecDepth 20000 in
theorem mt_kocH {h : sm_H} {d : Nat} {Q : Option mi_V → sm_H → Prop} {zc zr zk zz : Int} (hS : ab_Sh sx_sk h) (ok_zc : mi_in zc) (ok_zr : mi_in zr) (ok_zk : mi_in zk) (ok_zz : mi_in zz) (k0 : ((-2147483648 ≤ zk + 1 ∧ zk + 1 ≤ 2147483647)) ∧ (∀ h1, ab_Sh sx_sk h1 → ab_Fr [] h h1 → me_E (d + 3) 141 32 [some (.inr (.inr 108)), some (.inl (zc)), some (.inl (zz)), some (.inl (zk + 1))] [] h1 Q)) : me_E (d + 3) 141 57 [some (.inr (.inr 108)), some (.inl (zc)), some (.inl (zr)), some (.inl (zk))] [.inl (zz)] h Q := ms_kocH_0 hS ok_zc ok_zr ok_zk ok_zz ((k0).1) (fun h1 W => (k0).2 h1 W.1 (W.2.2.2.2.2 _ rfl))
