/-! grown, exactly -/
def gl_Q (h : sm_H) (m : Option gm_S) (w : Option mi_V) (h' : sm_H) : Prop := w = none ∧ ab_Sh sx_sk h' ∧ ab_Fr wr_L h h' ∧ mi_f h' 14034 = mi_f h 14034 ∧ mi_f h' 14033 = mi_f h 14033 ∧ ((m = none ∧ mi_f h' 14044 = 1) ∨ (mi_f h' 14044 = 0 ∧ ∃ t, m = some t ∧ gx_R h' t))
section GX4
variable {h : sm_H} {d : Nat} {zu : Int}
theorem gx_or {zv y : Int64} {v a k : Nat} (hv : zv.toBitVec.toNat = v) (hk : v < 2 ^ k) (hy : y.toBitVec.toNat = a * 2 ^ k) : (zv ||| y).toBitVec.toNat = v + a * 2 ^ k := by
  rw [Int64.toBitVec_or, BitVec.toNat_or, hv, hy, Nat.or_comm, ← Nat.shiftLeft_eq, ← Nat.shiftLeft_add_eq_or_of_lt hk, Nat.shiftLeft_eq, Nat.add_comm]
theorem gx_32 (k : Nat) : ((2 ^ (5 * k) : Nat) : Int) = 32 ^ k := by
  rw [Nat.pow_mul]
  norm_cast
theorem gx_R_fr0 {h' : sm_H} {s : gm_S} {wr : List (Nat × Nat)} (hR : gx_R h s) (hF : ab_Fr wr h h') (hS : ab_Sh sx_sk h) (hw : wr = []) : gx_R h' s := by
  subst hw
  obtain ⟨r1, r2, r3, r4, r5, r6⟩ := hR
  exact ⟨gx_T_fr r1 hF hS rfl, (me_l (c := 14047) hF hS rfl rfl).trans r2, (me_f (c := 14035) hF hS rfl rfl).trans r3, (me_f (c := 14031) hF hS rfl rfl).trans r4, (me_f (c := 14030) hF hS rfl rfl).trans r5, gx_P_fr hF hS rfl _ r6⟩
/-- a draw beside the pure one -/
theorem gx_R_x {h' : sm_H} {s : gm_S} (hR : gx_R h s) (hF : ab_Fr [(14047, 14048)] h h') (hS : ab_Sh sx_sk h) (e : mx_l h' 14047 = gm_x (mx_l h 14047)) : gx_R h' (gm_x (gm_X s), gm_F s, gm_T s, gm_D s, gm_P s) := by
  obtain ⟨r1, r2, r3, r4, r5, r6⟩ := hR
  unfold gx_R
  rw [gm_T_mk, gm_X_mk, gm_F_mk, gm_D_mk, gm_P_mk]
  exact ⟨gx_T_fr r1 hF hS rfl, by rw [e, r2], (me_f (c := 14035) hF hS rfl rfl).trans r3, (me_f (c := 14031) hF hS rfl rfl).trans r4, (me_f (c := 14030) hF hS rfl rfl).trans r5, gx_P_fr hF hS rfl _ r6⟩
theorem gr_kwx (hS : ab_Sh sx_sk h) (hm : mi_f h 14028 = 1) (hu0 : 0 ≤ zu) (hu1 : zu < 60) {zk : Int} (okk : mi_in zk) : ∀ (m : Nat) (zn : Int) (zv : Int64) (v : Nat) (h1 : sm_H) (s1 : gm_S), 8 ≤ m + zn.toNat → 1 ≤ zn → zn ≤ 7 → zv.toBitVec.toNat = v → v < 2 ^ (5 * zn.toNat) → (zn = 7 → 2 ^ 30 ≤ v) → ab_Sh sx_sk h1 → ab_Fr [(14047, 14048)] h h1 → gx_R h1 s1 → me_E (d + 1) 215 76 [some (.inr (.inr 109)), some (.inl zu), some (.inl zn), some (.inr (.inl zv)), none, some (.inl zk)] [] h1 (gl_Q h (gm_c 3 (gm_zs (gx_kw (mi_f h 13962) (mx_b h 118)) m zn.toNat (v : Int)) s1)) := by
  intro m
  induction m with
  | zero => intro zn zv v h1 s1 a1 a2 a3; omega
  | succ m ih =>
    intro zn zv v h1 s1 a1 a2 a3 av a4 a5 g1 g2 hR
    have oku : mi_in zu := ⟨by omega, by omega⟩
    have okn : mi_in zn := ⟨by omega, by omega⟩
    have hle35 : (2 : Nat) ^ (5 * zn.toNat) ≤ 2 ^ 35 := Nat.pow_le_pow_right (by decide) (by omega)
    have e0 : zv.toInt = (v : Int) := by
      rw [← av]
      show zv.toBitVec.toInt = _
      exact BitVec.toInt_eq_toNat_of_lt (by omega)
    refine mt_grG g1 oku okn okk ?_
    intro h2 p1 p2
    refine ⟨_, me_keywordOfx p1, ?_⟩
    intro w h3 hw hq
    obtain ⟨q1, q2, z, rfl, q3, q4, q5, q6⟩ := hq
    have F2 : ab_Fr [(14047, 14048)] h h2 := g2.trans (p2.wide (fun c hc => by cases hc))
    have F3 : ab_Fr [(14047, 14048)] h h3 := F2.trans (q2.wide (fun c hc => by cases hc))
    have R3 : gx_R h3 s1 := gx_R_fr0 (gx_R_fr0 hR p2 g1 rfl) q2 p1 rfl
    have eb : mx_b h2 118 = mx_b h 118 := funext fun i => me_b (k := 118) F2 hS rfl rfl
    have ef : mi_f h2 13962 = mi_f h 13962 := me_f (c := 13962) F2 hS rfl rfl
    rw [eb, ef, e0] at q6
    unfold gm_zs
    refine mt_grH q1 oku okn okk (hw _ rfl) ?_ ?_
    · intro c1 h4 s1' s2
      rw [if_neg (fun q => by have := q6.mpr q; omega)]
      have F4 : ab_Fr [(14047, 14048)] h h4 := F3.trans (s2.wide (fun c hc => by cases hc))
      refine ⟨_, me_comesx s1' ((me_f (c := 14028) F4 hS rfl rfl).trans hm) ⟨by decide, by decide⟩ (gx_R_fr0 R3 s2 q1 rfl), ?_⟩
      intro w h5 hw5 hq5
      obtain ⟨t1, t2, ⟨z2, rfl⟩, t3⟩ := hq5
      rw [e0] at t3
      refine mt_grI t1 oku okn okk (hw5 _ rfl) ?_
      intro h6 u1 u2
      refine ⟨rfl, u1, ((F4.wide (fun c hc => ab_swr_ok (by decide) hc)).trans (t2.wide (fun c hc => ab_swr_ok (by decide) hc))).trans (u2.wide (fun c hc => by cases hc)), ((me_f (c := 14034) u2 t1 rfl rfl).trans (me_f (c := 14034) t2 s1' rfl rfl)).trans (me_f (c := 14034) F4 hS rfl rfl), ((me_f (c := 14033) u2 t1 rfl rfl).trans (me_f (c := 14033) t2 s1' rfl rfl)).trans (me_f (c := 14033) F4 hS rfl rfl), ?_⟩
      have e44 : mi_f h6 14044 = mi_f h5 14044 := me_f (c := 14044) u2 t1 rfl rfl
      rcases t3 with ⟨x1, x2⟩ | ⟨x1, t, x2, x3⟩
      · exact Or.inl ⟨x1, e44.trans x2⟩
      · exact Or.inr ⟨e44.trans x1, t, x2, gx_R_fr0 x3 u2 t1 rfl⟩
    · intro c1
      rw [if_pos (q6.mp c1)]
      have hkw := q5 c1
      have hb := mx_arrL (a := 118) (n := 20) (lo := -65536) (hi := 1073741823) (ex := []) p1 rfl
      have hlt : zv.toInt ≤ 1073741823 := by
        obtain ⟨f, e1, e2⟩ := hb
        have := (e2 z.toNat (by omega)).2
        unfold mx_b at hkw
        rw [e1] at hkw
        rw [← hkw]
        exact this
      have hn6 : zn ≤ 6 := by
        rcases Int.lt_or_eq_of_le a3 with e | e
        · omega
        · have := a5 e
          omega
      refine ⟨by omega, fun h4 s1' s2 => ?_⟩
      have F4 : ab_Fr [(14047, 14048)] h h4 := F3.trans (s2.wide (fun c hc => by cases hc))
      have hs : ∀ k : Nat, zn = (k : Int) → ((Int64.ofNat 26) <<< ((Int32.ofInt (((5 : Int)) * zn)).toInt64 &&& 63)).toBitVec.toNat = 26 * 2 ^ (5 * k) := by
        intro k hk
        have hc : k = 1 ∨ k = 2 ∨ k = 3 ∨ k = 4 ∨ k = 5 ∨ k = 6 := by omega
        rw [hk]
        rcases hc with rfl | rfl | rfl | rfl | rfl | rfl <;> decide
      have key := gx_or av a4 (hs zn.toNat (by omega))
      have en : (zn + 1).toNat = zn.toNat + 1 := by omega
      have ev : ((v + 26 * 2 ^ (5 * zn.toNat) : Nat) : Int) = (v : Int) + 26 * 32 ^ zn.toNat := by
        rw [← gx_32]
        push_cast
        rfl
      have b5 : v + 26 * 2 ^ (5 * zn.toNat) < 2 ^ (5 * (zn + 1).toNat) := by
        rw [en, Nat.mul_add, Nat.pow_add]
        have := Nat.two_pow_pos (5 * zn.toNat)
        omega
      have b6 : zn + 1 = 7 → 2 ^ 30 ≤ v + 26 * 2 ^ (5 * zn.toNat) := by
        intro e
        have e6 : zn.toNat = 6 := by omega
        rw [e6]
        omega
      have := ih (zn + 1) _ (v + 26 * 2 ^ (5 * zn.toNat)) h4 s1 (by omega) (by omega) (by omega) key b5 b6 s1' F4 (gx_R_fr0 R3 s2 q1 rfl)
      rw [ev, en] at this
      exact this
end GX4
