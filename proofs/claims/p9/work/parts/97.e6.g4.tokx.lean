/-! the reference's tokens, exactly -/
def tq_L (h : sm_H) (k : Nat) : Int := if (mx_b h 118 k).toInt = 0 then -(mi_a h 117 k) else (mx_b h 118 k).toInt
def tq_O (h : sm_H) : Prop := ∀ k : Nat, (k : Int) < mi_f h 13962 → 0 ≤ (mx_b h 118 k).toInt ∧ 0 ≤ mi_a h 117 k
theorem tx_decL {V : Int64} {X : Int} (v0 : 0 ≤ V.toInt) (v1 : V.toInt < 10000) (x0 : 48 ≤ X) (x1 : X ≤ 57) : ((((Int64.ofNat 10) * V) + ((Int32.ofInt X).toInt64)) - (Int64.ofNat 48)).toInt = 10 * V.toInt + (X - 48) := by
  have okc : mi_in X := ⟨by omega, by omega⟩
  have e10 : (Int64.ofNat 10).toInt = 10 := rfl
  have e48 : (Int64.ofNat 48).toInt = 48 := rfl
  have em : (Int64.ofNat 10 * V).toInt = 10 * V.toInt := by
    rw [Int64.toInt_mul, e10]
    exact Int.bmod_eq_of_le (by omega) (by omega)
  have ea : (Int64.ofNat 10 * V + (Int32.ofInt X).toInt64).toInt = 10 * V.toInt + X := by
    rw [Int64.toInt_add, em, Int32.toInt_toInt64, mi_ti okc]
    exact Int.bmod_eq_of_le (by omega) (by omega)
  rw [Int64.toInt_sub, ea, e48, Int.bmod_eq_of_le (by omega) (by omega)]
  omega
section TQP
variable {d : Nat} {h : sm_H} {zc : Int}
theorem me_blx (hS : ab_Sh sx_sk h) (oc : mi_in zc) : me_E d 178 0 [some (.inl zc)] [] h (fun w h' => h' = h ∧ ∃ z, w = some (.inl z) ∧ mi_in z ∧ (z ≠ 0 ↔ tx_blk zc)) := by
  refine mt_vbl hS oc ?_ ?_ ?_
  · intro c h1 g1 g2
    exact ⟨me_nil g2, _, rfl, ⟨by decide, by decide⟩, by unfold tx_blk; omega⟩
  · intro c c2 h1 g1 g2
    exact ⟨me_nil g2, _, rfl, ⟨by decide, by decide⟩, by unfold tx_blk; omega⟩
  · intro c c2 h1 g1 g2
    exact ⟨me_nil g2, _, rfl, ⟨by decide, by decide⟩, by unfold tx_blk; omega⟩
theorem me_lox (hS : ab_Sh sx_sk h) (oc : mi_in zc) : me_E d 180 0 [some (.inl zc)] [] h (fun w h' => h' = h ∧ ∃ z, w = some (.inl z) ∧ mi_in z ∧ (z ≠ 0 ↔ tx_low zc)) := by
  refine mt_vlo hS oc ?_ ?_ ?_
  · intro c h1 g1 g2
    exact ⟨me_nil g2, _, rfl, ⟨by decide, by decide⟩, by unfold tx_low; omega⟩
  · intro c c2 h1 g1 g2
    exact ⟨me_nil g2, _, rfl, ⟨by decide, by decide⟩, by unfold tx_low; omega⟩
  · intro c c2 h1 g1 g2
    exact ⟨me_nil g2, _, rfl, ⟨by decide, by decide⟩, by unfold tx_low; omega⟩
theorem me_dix (hS : ab_Sh sx_sk h) (oc : mi_in zc) : me_E d 182 0 [some (.inl zc)] [] h (fun w h' => h' = h ∧ ∃ z, w = some (.inl z) ∧ mi_in z ∧ (z ≠ 0 ↔ tx_dig zc)) := by
  refine mt_vdi hS oc ?_ ?_ ?_
  · intro c h1 g1 g2
    exact ⟨me_nil g2, _, rfl, ⟨by decide, by decide⟩, by unfold tx_dig; omega⟩
  · intro c c2 h1 g1 g2
    exact ⟨me_nil g2, _, rfl, ⟨by decide, by decide⟩, by unfold tx_dig; omega⟩
  · intro c c2 h1 g1 g2
    exact ⟨me_nil g2, _, rfl, ⟨by decide, by decide⟩, by unfold tx_dig; omega⟩
theorem tq_z {x : Int64} : (x = Int64.ofNat 0) ↔ x.toInt = 0 := by
  constructor
  · intro e
    rw [e]
    rfl
  · intro e
    exact Int64.toInt_inj.mp (e.trans (by rfl))
theorem me_sox (hS : ab_Sh sx_sk h) (oc : mi_in zc) (c0 : 0 ≤ zc) (hO : tq_O h) : me_E d 230 0 [some (.inr (.inr 109)), some (.inl zc), none] [] h (fun w h' => h' = h ∧ ∃ z, -1 ≤ z ∧ z < 20 ∧ fx (mi_f h 13962) (tq_L h) (-zc) z ∧ w = some (.inl (if z = -1 then -1 else 3 + z))) := by
  have main : ∀ (N : Nat) (zl : Int), 20 - zl < N → 0 ≤ zl → zl ≤ 20 → (∀ l : Nat, (l : Int) < zl → tq_L h l ≠ -zc) → me_E d 230 2 [some (.inr (.inr 109)), some (.inl zc), some (.inl zl)] [] h (fun w h' => h' = h ∧ ∃ z, -1 ≤ z ∧ z < 20 ∧ fx (mi_f h 13962) (tq_L h) (-zc) z ∧ w = some (.inl (if z = -1 then -1 else 3 + z))) := by
    intro N
    induction N with
    | zero => intro zl hN; omega
    | succ N ih =>
      intro zl hN l0 l1 hno
      have back : ∀ h1, ab_Sh sx_sk h1 → ab_Fr [] h h1 → zl < 20 → tq_L h zl.toNat ≠ -zc → me_E d 230 2 [some (.inr (.inr 109)), some (.inl zc), some (.inl (zl + 1))] [] h1 (fun w h' => h' = h ∧ ∃ z, -1 ≤ z ∧ z < 20 ∧ fx (mi_f h 13962) (tq_L h) (-zc) z ∧ w = some (.inl (if z = -1 then -1 else 3 + z))) := by
        intro h1 g1 g2 c2 nn
        have e := me_nil g2
        subst e
        refine ih (zl + 1) (by omega) (by omega) (by omega) (fun l hl => ?_)
        by_cases e : (l : Int) = zl
        · have : zl.toNat = l := by omega
          rw [← this]
          exact nn
        · exact hno l (by omega)
      refine mt_vsB hS oc ⟨by omega, by omega⟩ ?_ ?_ ?_ ?_
      · intro b c h1 g1 g2
        exact ⟨me_nil g2, -1, by decide, by decide, Or.inr ⟨rfl, fun j hj => hno j (by omega)⟩, by rw [if_pos rfl]⟩
      · intro b c c2
        refine ⟨⟨by omega, by omega⟩, fun h1 g1 g2 => back h1 g1 g2 (by omega) ?_⟩
        have n0 : (mx_b h 118 zl.toNat).toInt ≠ 0 := fun q => gx_cmpn c2 (tq_z.mpr q)
        have := (hO zl.toNat (by omega)).1
        unfold tq_L
        rw [if_neg n0]
        omega
      · intro b c c2 c3
        refine ⟨⟨by omega, by omega⟩, fun h1 g1 g2 => back h1 g1 g2 (by omega) ?_⟩
        have n0 : (mx_b h 118 zl.toNat).toInt = 0 := tq_z.mp (lg_cmp0 c2)
        unfold tq_L
        rw [if_pos n0]
        omega
      · intro b c c2 c3
        refine ⟨⟨by omega, by omega⟩, fun h1 g1 g2 => ?_⟩
        have n0 : (mx_b h 118 zl.toNat).toInt = 0 := tq_z.mp (lg_cmp0 c2)
        refine ⟨me_nil g2, zl, by omega, by omega, Or.inl ⟨l0, c, ?_, hno⟩, by rw [if_neg (by omega)]⟩
        unfold tq_L
        rw [if_pos n0, c3]
  refine mt_vsA hS oc ?_
  intro h1 g1 g2
  have e := me_nil g2
  subst e
  exact main 30 0 (by omega) (by omega) (by omega) (fun l hl => by omega)
theorem me_kox {zw : Int64} (hS : ab_Sh sx_sk h) (w0 : 1 ≤ zw.toInt) (hO : tq_O h) : me_E d 216 0 [some (.inr (.inr 109)), some (.inr (.inl zw)), none, none] [] h (fun w h' => h' = h ∧ ∃ z, -1 ≤ z ∧ z < 20 ∧ fx (mi_f h 13962) (tq_L h) zw.toInt z ∧ w = some (.inl z)) := by
  have main : ∀ (N : Nat) (zl : Int), 20 - zl < N → 0 ≤ zl → zl ≤ 20 → (∀ l : Nat, (l : Int) < zl → tq_L h l ≠ zw.toInt) → me_E d 216 2 [some (.inr (.inr 109)), some (.inr (.inl zw)), none, some (.inl zl)] [] h (fun w h' => h' = h ∧ ∃ z, -1 ≤ z ∧ z < 20 ∧ fx (mi_f h 13962) (tq_L h) zw.toInt z ∧ w = some (.inl z)) := by
    intro N
    induction N with
    | zero => intro zl hN; omega
    | succ N ih =>
      intro zl hN l0 l1 hno
      have back : ∀ h1, ab_Sh sx_sk h1 → ab_Fr [] h h1 → zl < 20 → tq_L h zl.toNat ≠ zw.toInt → me_E d 216 2 [some (.inr (.inr 109)), some (.inr (.inl zw)), none, some (.inl (zl + 1))] [] h1 (fun w h' => h' = h ∧ ∃ z, -1 ≤ z ∧ z < 20 ∧ fx (mi_f h 13962) (tq_L h) zw.toInt z ∧ w = some (.inl z)) := by
        intro h1 g1 g2 c2 nn
        have e := me_nil g2
        subst e
        refine ih (zl + 1) (by omega) (by omega) (by omega) (fun l hl => ?_)
        by_cases e : (l : Int) = zl
        · have : zl.toNat = l := by omega
          rw [← this]
          exact nn
        · exact hno l (by omega)
      refine mt_kwB hS ⟨by omega, by omega⟩ ?_ ?_ ?_ ?_
      · intro b c h1 g1 g2
        exact ⟨me_nil g2, -1, by decide, by decide, Or.inr ⟨rfl, fun j hj => hno j (by omega)⟩, rfl⟩
      · intro b c c2
        refine ⟨⟨by omega, ⟨by omega, by omega⟩⟩, fun h1 g1 g2 => back h1 g1 g2 (by omega) ?_⟩
        have n0 : (mx_b h 118 zl.toNat).toInt = 0 := tq_z.mp (lg_cmp0 c2)
        have := (hO zl.toNat (by omega)).2
        unfold tq_L
        rw [if_pos n0]
        omega
      · intro b c c2 c3
        refine ⟨⟨by omega, ⟨by omega, by omega⟩⟩, fun h1 g1 g2 => back h1 g1 g2 (by omega) ?_⟩
        have n0 : (mx_b h 118 zl.toNat).toInt ≠ 0 := fun q => gx_cmpn c2 (tq_z.mpr q)
        unfold tq_L
        rw [if_neg n0]
        intro q
        exact gx_cmpn c3 (Int64.toInt_inj.mp q)
      · intro b c c2 c3
        refine ⟨by omega, fun h1 g1 g2 => ?_⟩
        have n0 : (mx_b h 118 zl.toNat).toInt ≠ 0 := fun q => gx_cmpn c2 (tq_z.mpr q)
        refine ⟨me_nil g2, zl, by omega, by omega, Or.inl ⟨l0, c, ?_, hno⟩, rfl⟩
        unfold tq_L
        rw [if_neg n0, lg_cmp0 c3]
  refine mt_kwA hS ?_
  intro h1 g1 g2
  have e := me_nil g2
  subst e
  exact main 30 0 (by omega) (by omega) (by omega) (fun l hl => by omega)
end TQP
def tq_T0 (h0 : sm_H) (a k v s e : Int) : Prop := tq_T (mi_f h0 13954) (mi_a h0 111) (mi_f h0 13962) (tq_L h0) a k v s e
def ty_H (h0 hh h : sm_H) : Prop := ab_Sh sx_sk h ∧ ab_Fr tk_W h0 h ∧ mi_f h 14011 = mi_f hh 14011 ∧ (∀ i, mi_a h 152 i = mi_a hh 152 i) ∧ ∀ i, i ≠ (mi_f hh 14011).toNat → mx_b h 154 i = mx_b hh 154 i
def ty_C (d : Nat) (h0 hh : sm_H) (a zk : Int) (Q : Option mi_V → sm_H → Prop) : Prop := ∀ (ze : Int) (q2 q3 q4 q5 q6 q7 : Option mi_V) (h1 : sm_H), zk < ze → ze ≤ mi_f h0 13954 → (∀ v, q2 = some v → mi_ok v) → (∀ v, q3 = some v → mi_ok v) → (∀ v, q4 = some v → mi_ok v) → (∀ v, q5 = some v → mi_ok v) → (∀ v, q6 = some v → mi_ok v) → (∀ v, q7 = some v → mi_ok v) → ab_Sh sx_sk h1 → ab_Fr tk_W h0 h1 → mi_f h1 14011 = mi_f hh 14011 + 1 → (∀ i, i ≠ (mi_f hh 14011).toNat → mi_a h1 152 i = mi_a hh 152 i) → (∀ i, i ≠ (mi_f hh 14011).toNat → mx_b h1 154 i = mx_b hh 154 i) → 0 ≤ (mx_b h1 154 (mi_f hh 14011).toNat).toInt → (mx_b h1 154 (mi_f hh 14011).toNat).toInt < 1073741824 → tq_T0 h0 a (mi_a h1 152 (mi_f hh 14011).toNat) (mx_b h1 154 (mi_f hh 14011).toNat).toInt zk ze → me_E (d + 1) 229 7 [some (.inr (.inr 109)), some (.inl ze), q2, q3, q4, q5, q6, q7] [] h1 Q
section TQM
variable {d : Nat} {h0 hh : sm_H} {a zk : Int} {Q : Option mi_V → sm_H → Prop}
theorem ty_fin {ze K : Int} {q2 q3 q4 q5 q6 q7 : Option mi_V} {h h1 : sm_H} (hC : ty_C d h0 hh a zk Q) (hH : ty_H h0 hh h) (e0 : zk < ze) (e1 : ze ≤ mi_f h0 13954) (o2 : ∀ v, q2 = some v → mi_ok v) (o3 : ∀ v, q3 = some v → mi_ok v) (o4 : ∀ v, q4 = some v → mi_ok v) (o5 : ∀ v, q5 = some v → mi_ok v) (o6 : ∀ v, q6 = some v → mi_ok v) (o7 : ∀ v, q7 = some v → mi_ok v) (g1 : ab_Sh sx_sk h1) (g2 : mi_f h1 14011 = mi_f h 14011 + 1) (g3 : ∀ i, mi_a h1 152 i = if i = (mi_f h 14011).toNat then K else mi_a h 152 i) (g4 : ab_Fr [(14011, 14012), (19456, 19457)] h h1) (v0 : 0 ≤ (mx_b h 154 (mi_f hh 14011).toNat).toInt) (v1 : (mx_b h 154 (mi_f hh 14011).toNat).toInt < 1073741824) (hT : tq_T0 h0 a K (mx_b h 154 (mi_f hh 14011).toNat).toInt zk ze) : me_E (d + 1) 229 7 [some (.inr (.inr 109)), some (.inl ze), q2, q3, q4, q5, q6, q7] [] h1 Q := by
  obtain ⟨x1, x2, x3, x4, x5⟩ := hH
  have eb : ∀ i, mx_b h1 154 i = mx_b h 154 i := fun i => me_b (k := 154) g4 x1 rfl rfl
  refine hC ze _ _ _ _ _ _ h1 e0 e1 o2 o3 o4 o5 o6 o7 g1 (x2.trans (g4.wide (fun c hc => ab_swr_ok (by decide) hc))) (by omega) (fun i hi => ?_) (fun i hi => ?_) ?_ ?_ ?_
  · rw [g3, if_neg (by rw [x3]; exact hi), x4]
  · rw [eb]
    exact x5 i hi
  · rw [eb]
    exact v0
  · rw [eb]
    exact v1
  · rw [eb, g3, if_pos (by rw [x3])]
    exact hT
theorem ty_step {h h1 : sm_H} {x : Int64} (hH : ty_H h0 hh h) (g1 : ab_Sh sx_sk h1) (g2 : ∀ i, mx_b h1 154 i = if i = (mi_f h 14011).toNat then x else mx_b h 154 i) (g3 : ab_Fr [(19712, 19713)] h h1) : ty_H h0 hh h1 ∧ mx_b h1 154 (mi_f hh 14011).toNat = x := by
  obtain ⟨x1, x2, x3, x4, x5⟩ := hH
  refine ⟨⟨g1, x2.trans (g3.wide (fun c hc => ab_swr_ok (by decide) hc)), (me_f (c := 14011) g3 x1 rfl rfl).trans x3, fun i => (me_a (k := 152) g3 x1 rfl rfl).trans (x4 i), fun i hi => ?_⟩, ?_⟩
  · rw [g2, if_neg (by rw [x3]; exact hi)]
    exact x5 i hi
  · rw [g2, if_pos (by rw [x3])]
theorem ty135 {zc zl zd ze : Int} (hC : ty_C d h0 hh a zk Q) (hS0 : ab_Sh sx_sk h0) (k0 : 0 ≤ zk) (hb : tx_end tx_blk (mi_f h0 13954) (mi_a h0 111) a zk) (t1 : mi_f hh 14011 ≤ zk) (e0 : zk < ze) (e1 : ze ≤ mi_f h0 13954) (he : tx_end tx_dig (mi_f h0 13954) (mi_a h0 111) zk ze) (oc : mi_in zc) (ol : mi_in zl) (od : mi_in zd) : ∀ (N : Nat) (zj : Int) (h : sm_H), ze - zj < N → zk ≤ zj → zj ≤ ze → ty_H h0 hh h → (5 ≤ ze - zk → zj = zk ∧ (mx_b h 154 (mi_f hh 14011).toNat).toInt = 0) → (ze - zk < 5 → (mx_b h 154 (mi_f hh 14011).toNat).toInt = tx_dec (mi_a h0 111) zk (zj - zk).toNat) → me_E (d + 1) 229 135 [some (.inr (.inr 109)), some (.inl zk), some (.inl zc), some (.inl zl), some (.inl zd), some (.inl ze), some (.inl (ze - zk)), some (.inl zj)] [] h Q := by
  have e2 := (me_fb (c := 13954) hS0 rfl).2
  have hdig := (he.2.1 zk (Int.le_refl _) e0).2
  intro N
  induction N with
  | zero => intro zj h hN _ _; exfalso; omega
  | succ N ih =>
    intro zj h hN j0 j1 hH hA hB
    have hS := hH.1
    have x3 := hH.2.2.1
    have ok : mi_in zk := ⟨by omega, by omega⟩
    have oe : mi_in ze := ⟨by omega, by omega⟩
    have oj : mi_in zj := ⟨by omega, by omega⟩
    have on : mi_in (ze - zk) := ⟨by omega, by omega⟩
    refine mt_tk9 hS ok oc ol od oe on oj ?_ ?_ ?_ ?_
    · intro b c1 c2
      exfalso
      have := hA (by omega)
      omega
    · intro b c1 c2
      have ej : zj = ze := by omega
      subst ej
      have hv := hB (by omega)
      have vb := tx_dec_b (c := mi_a h0 111) (k := zk) (zj - zk).toNat (fun j a1 a2 => (he.2.1 j a1 (by omega)).2)
      have p4 : (10 : Int) ^ (zj - zk).toNat ≤ 10 ^ 4 := by
        have : (10 : Nat) ^ (zj - zk).toNat ≤ 10 ^ 4 := Nat.pow_le_pow_right (by decide) (by omega)
        exact_mod_cast this
      have e44 : (10 : Int) ^ 4 = 10000 := by decide
      refine ⟨by omega, fun h1 g1 g2 g3 g4 => ?_⟩
      exact ty_fin hC hH e0 e1 (me_oi oc) (me_oi ol) (me_oi od) (me_oi oe) (me_oi on) (me_oi oj) g1 g2 g3 g4 (by omega) (by omega) ⟨hb, Or.inr ⟨by omega, Or.inl ⟨hdig, he, Or.inl ⟨by omega, rfl, hv⟩⟩⟩⟩
    · intro b c1 c2
      have hv := (hA (by omega)).2
      refine ⟨by omega, fun h1 g1 g2 g3 g4 => ?_⟩
      exact ty_fin hC hH e0 e1 (me_oi oc) (me_oi ol) (me_oi od) (me_oi oe) (me_oi on) (me_oi oj) g1 g2 g3 g4 (by omega) (by omega) ⟨hb, Or.inr ⟨by omega, Or.inl ⟨hdig, he, Or.inr ⟨by omega, rfl⟩⟩⟩⟩
    · intro b c1 c2
      have hv := hB c2
      have hz := (he.2.1 zj j0 c1).2
      have vb := tx_dec_b (c := mi_a h0 111) (k := zk) (zj - zk).toNat (fun j a1 a2 => (he.2.1 j a1 (by omega)).2)
      have p4 : (10 : Int) ^ (zj - zk).toNat ≤ 10 ^ 4 := by
        have : (10 : Nat) ^ (zj - zk).toNat ≤ 10 ^ 4 := Nat.pow_le_pow_right (by decide) (by omega)
        exact_mod_cast this
      have e44 : (10 : Int) ^ 4 = 10000 := by decide
      have ea : mi_a h 111 zj.toNat = mi_a h0 111 zj.toNat := me_a (k := 111) hH.2.1 hS0 rfl rfl
      refine ⟨by omega, fun h1 g1 g2 g3 => ?_⟩
      obtain ⟨s1, s2⟩ := ty_step hH g1 g2 g3
      refine ih (zj + 1) h1 (by omega) (by omega) (by omega) s1 (fun q => by omega) (fun _ => ?_)
      have en : (zj + 1 - zk).toNat = (zj - zk).toNat + 1 := by omega
      have ez : (zk + ((zj - zk).toNat : Int)).toNat = zj.toNat := by omega
      rw [s2, ea, x3, tx_decL (by omega) (by omega) hz.1 hz.2, en, hv]
      show _ = 10 * tx_dec (mi_a h0 111) zk (zj - zk).toNat + (mi_a h0 111 (zk + ((zj - zk).toNat : Int)).toNat - 48)
      rw [ez]
theorem tx_code_1 {c : Nat → Int} {k : Int} {m : Nat} (h : ∀ j, k ≤ j → j < k + ((m + 1 : Nat) : Int) → tx_low (c j.toNat)) : 1 ≤ tx_code c k (m + 1) := by
  have h1 := (h k (Int.le_refl _) (by omega)).1
  have h2 := (tx_code_b (c := c) m (k + 1) (fun j a b => h j (by omega) (by omega))).1
  show 1 ≤ (c k.toNat - 96) + 32 * tx_code c (k + 1) m
  omega
theorem ty222 {zc zl zd ze : Int} (hC : ty_C d h0 hh a zk Q) (hS0 : ab_Sh sx_sk h0) (hO : tq_O h0) (k0 : 0 ≤ zk) (hb : tx_end tx_blk (mi_f h0 13954) (mi_a h0 111) a zk) (t1 : mi_f hh 14011 ≤ zk) (e0 : zk < ze) (e1 : ze ≤ mi_f h0 13954) (he : tx_end tx_low (mi_f h0 13954) (mi_a h0 111) zk ze) (oc : mi_in zc) (ol : mi_in zl) (od : mi_in zd) : ∀ (N : Nat) (zj : Int) (h : sm_H), zj - zk + 1 < N → zk - 1 ≤ zj → zj < ze → ty_H h0 hh h → (7 ≤ ze - zk → (mx_b h 154 (mi_f hh 14011).toNat).toInt = 0) → (ze - zk < 7 → (mx_b h 154 (mi_f hh 14011).toNat).toInt = tx_code (mi_a h0 111) (zj + 1) (ze - 1 - zj).toNat) → me_E (d + 1) 229 222 [some (.inr (.inr 109)), some (.inl zk), some (.inl zc), some (.inl zl), some (.inl zd), some (.inl ze), some (.inl (ze - zk)), some (.inl zj)] [] h Q := by
  have e2 := (me_fb (c := 13954) hS0 rfl).2
  have hlow := (he.2.1 zk (Int.le_refl _) e0).2
  intro N
  induction N with
  | zero => intro zj h hN _ _; exfalso; omega
  | succ N ih =>
    intro zj h hN j0 j1 hH hA hB
    have hS := hH.1
    have x3 := hH.2.2.1
    have ok : mi_in zk := ⟨by omega, by omega⟩
    have oe : mi_in ze := ⟨by omega, by omega⟩
    have oj : mi_in zj := ⟨by omega, by omega⟩
    have on : mi_in (ze - zk) := ⟨by omega, by omega⟩
    have o1 : mi_in (-1) := ⟨by decide, by decide⟩
    have long : 7 ≤ ze - zk → ∀ h1, ab_Sh sx_sk h1 → mi_f h1 14011 = mi_f h 14011 + 1 → (∀ i, mi_a h1 152 i = if i = (mi_f h 14011).toNat then -1 else mi_a h 152 i) → ab_Fr [(14011, 14012), (19456, 19457)] h h1 → me_E (d + 1) 229 7 [some (.inr (.inr 109)), some (.inl ze), some (.inl zc), some (.inl zl), some (.inl zd), some (.inl ze), some (.inl (ze - zk)), some (.inl (-1))] [] h1 Q := fun c h1 g1 g2 g3 g4 => by
      have hv := hA c
      exact ty_fin hC hH e0 e1 (me_oi oc) (me_oi ol) (me_oi od) (me_oi oe) (me_oi on) (me_oi o1) g1 g2 g3 g4 (by omega) (by omega) ⟨hb, Or.inr ⟨by omega, Or.inr (Or.inl ⟨hlow, he, Or.inr ⟨by omega, rfl⟩⟩)⟩⟩
    refine mt_tk10 hS ok oc ol od oe on oj ?_ ?_ ?_ ?_ ?_ ?_
    · intro b c1 c2 c3
      exfalso; omega
    · intro b c1 c2 c3
      exact ⟨by omega, long c2⟩
    · intro b c1 c2
      have ej : zj = zk - 1 := by omega
      subst ej
      have hv := hB c2
      rw [show zk - 1 + 1 = zk by omega, show ze - 1 - (zk - 1) = ze - zk by omega] at hv
      have em : (ze - zk).toNat = ((ze - zk).toNat - 1) + 1 := by omega
      have v1 : 1 ≤ tx_code (mi_a h0 111) zk (ze - zk).toNat := by
        rw [em]
        exact tx_code_1 (fun j a1 a2 => (he.2.1 j a1 (by omega)).2)
      have vb := tx_code_b (c := mi_a h0 111) (ze - zk).toNat zk (fun j a1 a2 => (he.2.1 j a1 (by omega)).2)
      have p6 : (32 : Int) ^ (ze - zk).toNat ≤ 32 ^ 6 := by
        have : (32 : Nat) ^ (ze - zk).toNat ≤ 32 ^ 6 := Nat.pow_le_pow_right (by decide) (by omega)
        exact_mod_cast this
      have e36 : (32 : Int) ^ 6 = 1073741824 := by decide
      refine ⟨by omega, fun h1 g1 g2 => ?_⟩
      have e3 := me_nil g2
      subst e3
      have f62 : mi_f h1 13962 = mi_f h0 13962 := me_f (c := 13962) hH.2.1 hS0 rfl rfl
      have fL : ∀ i, tq_L h1 i = tq_L h0 i := fun i => by
        unfold tq_L
        rw [me_b (k := 118) hH.2.1 hS0 rfl rfl, me_a (k := 117) hH.2.1 hS0 rfl rfl]
      have hO1 : tq_O h1 := fun k hk => by
        rw [me_b (k := 118) hH.2.1 hS0 rfl rfl, me_a (k := 117) hH.2.1 hS0 rfl rfl]
        exact hO k (by omega)
      rw [x3]
      refine ⟨_, me_kox g1 (by omega) hO1, fun w h2 ow hq => ?_⟩
      obtain ⟨rfl, z, z0, z1, hz, rfl⟩ := hq
      rw [f62, show tq_L h2 = tq_L h0 from funext fL, hv] at hz
      have oz : mi_in z := ⟨by omega, by omega⟩
      refine mt_tk11 g1 ok oc ol od oe on oj oz ?_ ?_ ?_
      · intro b c3 c4
        refine ⟨by omega, fun h3 r1 r2 r3 r4 => ?_⟩
        refine ty_fin hC hH e0 e1 (me_oi oc) (me_oi ol) (me_oi od) (me_oi oe) (me_oi on) (me_oi oz) r1 r2 r3 r4 (by omega) (by omega) ⟨hb, Or.inr ⟨by omega, Or.inr (Or.inl ⟨hlow, he, Or.inl ⟨by omega, hv, z, ?_, ?_⟩⟩)⟩⟩
        · rw [hv]
          exact hz
        · rw [if_pos (by omega)]
      · intro b c3 c4
        refine ⟨by omega, fun h3 r1 r2 r3 r4 => ?_⟩
        refine ty_fin hC hH e0 e1 (me_oi oc) (me_oi ol) (me_oi od) (me_oi oe) (me_oi on) (me_oi oz) r1 r2 r3 r4 (by omega) (by omega) ⟨hb, Or.inr ⟨by omega, Or.inr (Or.inl ⟨hlow, he, Or.inl ⟨by omega, hv, z, ?_, ?_⟩⟩)⟩⟩
        · rw [hv]
          exact hz
        · rw [if_neg (by omega)]
      · intro b c3
        exfalso; omega
    · intro b c1 c2 c3
      exfalso; omega
    · intro b c1 c2 c3
      exact ⟨by omega, long c2⟩
    · intro b c1 c2
      have hv := hB c2
      have hz := (he.2.1 zj c1 j1).2
      have vb := tx_code_b (c := mi_a h0 111) (ze - 1 - zj).toNat (zj + 1) (fun j a1 a2 => (he.2.1 j (by omega) (by omega)).2)
      have p5 : (32 : Int) ^ (ze - 1 - zj).toNat ≤ 32 ^ 5 := by
        have : (32 : Nat) ^ (ze - 1 - zj).toNat ≤ 32 ^ 5 := Nat.pow_le_pow_right (by decide) (by omega)
        exact_mod_cast this
      have e35 : (32 : Int) ^ 5 = 33554432 := by decide
      have ea : mi_a h 111 zj.toNat = mi_a h0 111 zj.toNat := me_a (k := 111) hH.2.1 hS0 rfl rfl
      refine ⟨by omega, fun h1 g1 g2 g3 => ?_⟩
      obtain ⟨s1, s2⟩ := ty_step hH g1 g2 g3
      refine ih (zj + -1) h1 (by omega) (by omega) (by omega) s1 (fun q => by omega) (fun _ => ?_)
      have em : (ze - 1 - zj).toNat + 1 = (ze - 1 - (zj - 1)).toNat := by omega
      rw [s2, ea, x3, tx_pack (by omega) (by omega) hz.1 hz.2, hv, show ze - 1 - (zj + -1) = ze - 1 - (zj - 1) by omega, ← em, show zj + -1 + 1 = zj by omega]
      rfl
end TQM
