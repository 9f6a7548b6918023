/-! the letters of a grown name, and grown, exactly -/
section GX5
theorem gm_ls_s (m k : Nat) (x : Int64) (v : Int) : gm_ls (m + 1) k x v = gm_ls m (k + 1) (gm_x x) (v + (1 + gm_v (gm_x x) 3) * 32 ^ k) := by rw [gm_ls]
theorem gm_ls_0 (k : Nat) (x : Int64) (v : Int) : gm_ls 0 k x v = (v, x) := by rw [gm_ls]
variable {h : sm_H} {d : Nat} {zu : Int}
theorem gr_letx (hS : ab_Sh sx_sk h) (hm : mi_f h 14028 = 1) (hu0 : 0 ≤ zu) (hu1 : zu < 60) {zn : Int} (hn0 : 1 ≤ zn) (hn1 : zn ≤ 3) : ∀ (j : Nat) (zk : Int) (zv : Int64) (v : Nat) (h1 : sm_H) (s1 : gm_S), zn - zk = (j : Int) → 0 ≤ zk → zv.toBitVec.toNat = v → v < 2 ^ (5 * zk.toNat) → ab_Sh sx_sk h1 → ab_Fr [(14047, 14048)] h h1 → gx_R h1 s1 → me_E (d + 1) 215 48 [some (.inr (.inr 109)), some (.inl zu), some (.inl zn), some (.inr (.inl zv)), none, some (.inl zk)] [] h1 (gl_Q h (gm_c 3 (gm_zs (gx_kw (mi_f h 13962) (mx_b h 118)) 7 zn.toNat (gm_ls j zk.toNat (gm_X s1) (v : Int)).1) ((gm_ls j zk.toNat (gm_X s1) (v : Int)).2, gm_F s1, gm_T s1, gm_D s1, gm_P s1))) := by
  intro j
  induction j with
  | zero =>
    intro zk zv v h1 s1 a1 a2 av a4 g1 g2 hR
    have oku : mi_in zu := ⟨by omega, by omega⟩
    have okn : mi_in zn := ⟨by omega, by omega⟩
    have ek : zk = zn := by omega
    subst ek
    rw [gm_ls_0]
    refine mt_grE g1 oku okn okn ?_ ?_
    · intro c1 h2 p1 p2
      exact gr_kwx hS hm hu0 hu1 okn 7 zk zv v h2 s1 (by omega) hn0 (by omega) av a4 (fun e => by omega) p1 (g2.trans (p2.wide (fun c hc => by cases hc))) (gx_R_fr0 hR p2 g1 rfl)
    · intro c1
      omega
  | succ j ih =>
    intro zk zv v h1 s1 a1 a2 av a4 g1 g2 hR
    have oku : mi_in zu := ⟨by omega, by omega⟩
    have okn : mi_in zn := ⟨by omega, by omega⟩
    have okk : mi_in zk := ⟨by omega, by omega⟩
    refine mt_grE g1 oku okn okk ?_ ?_
    · intro c1
      omega
    · intro c1 h2 p1 p2
      have R2 : gx_R h2 s1 := gx_R_fr0 hR p2 g1 rfl
      refine ⟨_, me_drawx p1 (by decide) (by decide), ?_⟩
      intro w h3 hw hq
      obtain ⟨q1, q2, q3, rfl⟩ := hq
      have R3 := gx_R_x R2 q2 p1 q3
      have F3 : ab_Fr [(14047, 14048)] h h3 := (g2.trans (p2.wide (fun c hc => by cases hc))).trans q2
      have ex : mx_l h2 14047 = gm_X s1 := R2.2.1
      rw [ex] at hw ⊢
      have hz := gm_vbt (gm_x (gm_X s1)) 3 (by decide) (by decide)
      rw [gm_ls_s]
      generalize hgz : gm_v (gm_x (gm_X s1)) 3 = z at hw hz ⊢
      generalize hgx : gm_x (gm_X s1) = y at R3 ⊢
      refine mt_grF q1 oku okn okk (hw _ rfl) ?_
      refine ⟨by omega, fun h4 s1' s2 => ?_⟩
      have F4 : ab_Fr [(14047, 14048)] h h4 := F3.trans (s2.wide (fun c hc => by cases hc))
      have hz3 : z = 0 ∨ z = 1 ∨ z = 2 := by omega
      have hk3 : zk = 0 ∨ zk = 1 ∨ zk = 2 := by omega
      have hs : ((Int64.ofNat 1 + (Int32.ofInt z).toInt64) <<< ((Int32.ofInt (((5 : Int)) * zk)).toInt64 &&& 63)).toBitVec.toNat = (1 + z).toNat * 2 ^ (5 * zk.toNat) := by
        rcases hk3 with rfl | rfl | rfl <;> rcases hz3 with rfl | rfl | rfl <;> decide
      have key := gx_or av a4 hs
      have en : (zk + 1).toNat = zk.toNat + 1 := by omega
      have b5 : v + (1 + z).toNat * 2 ^ (5 * zk.toNat) < 2 ^ (5 * (zk + 1).toNat) := by
        rw [en, Nat.mul_add, Nat.pow_add]
        have := Nat.two_pow_pos (5 * zk.toNat)
        have : (1 + z).toNat * 2 ^ (5 * zk.toNat) ≤ 3 * 2 ^ (5 * zk.toNat) := Nat.mul_le_mul_right _ (by omega)
        omega
      have ev : ((v + (1 + z).toNat * 2 ^ (5 * zk.toNat) : Nat) : Int) = (v : Int) + (1 + z) * 32 ^ zk.toNat := by
        rw [← gx_32, Int.natCast_add, Int.natCast_mul, Int.toNat_of_nonneg (by omega)]
      have := ih (zk + 1) _ (v + (1 + z).toNat * 2 ^ (5 * zk.toNat)) h4 (y, gm_F s1, gm_T s1, gm_D s1, gm_P s1) (by omega) (by omega) key b5 s1' F4 (gx_R_fr0 R3 s2 q1 rfl)
      rw [ev, en, gm_X_mk, gm_F_mk, gm_T_mk, gm_D_mk, gm_P_mk] at this
      exact this
end GX5
