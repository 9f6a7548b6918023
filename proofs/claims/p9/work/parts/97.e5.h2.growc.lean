/-! grow of the class, exactly -/
def gt_W : List (Nat × Nat) := [(12032, 12033), (12160, 12161), (12288, 12289), (12416, 12417)]
section GCX
variable {d : Nat} {h : sm_H}
theorem me_gtake (hS0 : ab_Sh sx_sk h) (n0 : 0 ≤ mi_f h 13056) (n1 : mi_f h 13056 ≤ 100) : me_E (d + 2) 93 0 [some (.inr (.inr 94)), some (.inr (.inr 102)), none] [] h (fun w h' => w = none ∧ ab_Sh sx_sk h' ∧ ab_Fr gt_W h h' ∧ mi_f h' 12032 = mi_f h 13056 ∧ ∀ i : Nat, (i : Int) < mi_f h 13056 → mi_a h' 95 i = mi_a h 103 i ∧ mi_a h' 96 i = mi_a h 104 i ∧ mi_a h' 97 i = mi_a h 105 i) := by
  have main : ∀ (N : Nat) (zk : Int) (h1 : sm_H), mi_f h 13056 - zk < N → 0 ≤ zk → zk ≤ mi_f h 13056 → ab_Sh sx_sk h1 → ab_Fr gt_W h h1 → mi_f h1 12032 = mi_f h 13056 → (∀ i : Nat, (i : Int) < zk → mi_a h1 95 i = mi_a h 103 i ∧ mi_a h1 96 i = mi_a h 104 i ∧ mi_a h1 97 i = mi_a h 105 i) → me_E (d + 2) 93 10 [some (.inr (.inr 94)), some (.inr (.inr 102)), some (.inl zk)] [] h1 (fun w h' => w = none ∧ ab_Sh sx_sk h' ∧ ab_Fr gt_W h h' ∧ mi_f h' 12032 = mi_f h 13056 ∧ ∀ i : Nat, (i : Int) < mi_f h 13056 → mi_a h' 95 i = mi_a h 103 i ∧ mi_a h' 96 i = mi_a h 104 i ∧ mi_a h' 97 i = mi_a h 105 i) := by
    intro N
    induction N with
    | zero => intro zk h1 hN _ _; exfalso; omega
    | succ N ih =>
      intro zk h1 hN k0 k1 hS hF hn hi
      refine mt_khtB hS ⟨by omega, by omega⟩ ?_ (fun _ _ c => by exfalso; omega) (fun _ c1 _ c => by exfalso; omega) ?_
      · intro b c h2 g1 g2
        have e2 := me_nil g2
        subst e2
        exact ⟨rfl, hS, hF, hn, fun i hi2 => hi i (by omega)⟩
      · intro b c c1 c2
        refine ⟨⟨⟨by omega, by omega⟩, by omega, by omega⟩, fun h2 g1 g2 g3 g4 g5 => ?_⟩
        refine ih (zk + 1) h2 (by omega) (by omega) (by omega) g1 (hF.trans (g5.wide (fun c hc => ab_swr_ok (by decide) hc))) ((me_f (c := 12032) g5 hS rfl rfl).trans hn) (fun i hi2 => ?_)
        rw [g2, g3, g4]
        by_cases e : i = zk.toNat
        · rw [if_pos e, if_pos e, if_pos e, me_a (k := 103) hF hS0 rfl rfl, me_a (k := 104) hF hS0 rfl rfl, me_a (k := 105) hF hS0 rfl rfl, e]
          exact ⟨rfl, rfl, rfl⟩
        · rw [if_neg e, if_neg e, if_neg e]
          exact hi i (by omega)
  refine mt_khtA hS0 ?_
  intro h1 g1 g2 g3
  exact main 200 0 h1 (by omega) (by decide) (by omega) g1 (g3.wide (fun c hc => ab_swr_ok (by decide) hc)) g2 (fun i hi => by exfalso; omega)
/-- what grow may write -/
def gc_W : List (Nat × Nat) := [(12032, 12033), (12160, 12161), (12288, 12289), (12416, 12417), (13056, 13057), (13184, 13185), (13312, 13313), (13440, 13441), (13699, 13704)]
/-- from where it goes -/
def gc_0 (g : wk_g) (zx : Int64) (zf : Int) : Option gm_C := gm_en g 0 [] (zx, zf, [], 0, [])
/-- what is thrown -/
def gc_T (h : sm_H) (zx : Int64) (zf : Int) (x : Nat) (h' : sm_H) : Prop := ∃ h1, h' = h1 ++ [sm_exc x] ∧ ab_Sh sx_sk h1 ∧ ab_Fr gc_W h h1 ∧ ((x = 13 ∧ (zf < 0 ∨ 20 < zf)) ∨ (x = 14 ∧ (0 ≤ zf ∧ zf ≤ 20) ∧ mi_f h 6543 = 0) ∨ (x = 15 ∧ (0 ≤ zf ∧ zf ≤ 20) ∧ mi_f h 6543 ≠ 0 ∧ gm_NO (mi_a h) (gx_k h) (gc_0 (mi_a h) zx zf)))
/-- what is answered; the tree -/
def gc_R (h : sm_H) (T : List (Int × Int × Int)) : Prop := mi_f h 12032 = (T.length : Int) ∧ ∀ k : Nat, k < T.length → ∃ l q, T[k]? = some (mi_a h 95 k + 10 * q, mi_a h 96 k, l) ∧ 0 ≤ mi_a h 95 k ∧ mi_a h 95 k < 10
/-- what the tree holds, with the sizes -/
def gc_S (h : sm_H) (T : List (Int × Int × Int)) : Prop := gc_R h T ∧ fo 0 T ∧ ∀ k : Nat, k < T.length → (sz T)[k]? = some (mi_a h 97 k)
def gc_Q (h : sm_H) (zx : Int64) (zf : Int) (w : Option mi_V) (h' : sm_H) : Prop := ab_Sh sx_sk h' ∧ ab_Fr gc_W h h' ∧ (0 ≤ zf ∧ zf ≤ 20) ∧ mi_f h 6543 ≠ 0 ∧ ∃ s', gm_RO (mi_a h) (gx_k h) (gc_0 (mi_a h) zx zf) ([], s') ∧ w = some (.inl ((gm_T s').length : Int)) ∧ (gm_T s').length ≤ 100 ∧ gc_S h' (gm_T s')
theorem me_growc {zx : Int64} {zf : Int} (hS : ab_Sh sx_sk h) (of : mi_in zf) (hG : mi_f h 6543 ≠ 0 → ∃ f it Y, cg_G f it (mi_a h) Y (gx_k h) h ∧ wk_Lrule Y (mi_a h 114 0) ∧ f (mi_a h 114 0) = 0) : mg_E (gc_T h zx zf) 245 158 0 [some (.inr (.inr 51)), some (.inr (.inl zx)), none, some (.inl zf)] [] h (gc_Q h zx zf) := by
  refine mt_khgA (d := 244) hS of ?_ ?_ ?_ ?_
  · intro c h1 g1 g2
    have e := me_nil g2
    subst e
    exact mg_thr (M := (4, 1, sb_158)) (x := 13) rfl rfl rfl ⟨h1, rfl, g1, ab_Fr.refl, Or.inl ⟨rfl, Or.inl c⟩⟩
  · intro b c1 c2 c3 h1 g1 g2 g3 g4
    obtain ⟨f, it, Y, k1, k2, k3⟩ := hG c3
    have hG1 := cg_G_fr k1 g4 hS rfl
    refine ⟨_, me_gwalk g1 hG1 k2.1 k2.2.1 k3 g2 g3 c1 c2, fun w h2 hw hq => ?_⟩
    obtain ⟨rfl, q1, q2, q3, q4⟩ := hq
    have F2 : ab_Fr gc_W h h2 := (g4.wide (fun c hc => ab_swr_ok (by decide) hc)).trans (q2.wide (fun c hc => ab_swr_ok (by decide) hc))
    refine mt_khgB (d := 244) q1 of ?_ ?_
    · intro b1 z h3 r1 r2
      have e := me_nil r2
      subst e
      rcases q4 with ⟨-, q4, -⟩ | ⟨-, -, s', q5, ⟨-, -, A, qa, qb, qc, -⟩, q6⟩
      · exfalso; omega
      obtain ⟨⟨t1, t2⟩, -, -, t3, -⟩ := q5
      have t3 : ((gm_T s').length : Int) ≤ 100 := t3
      refine ⟨_, me_gtake (d := 242) q1 (by omega) (by omega), fun w h4 hw hq => ?_⟩
      obtain ⟨rfl, u1, u2, u3, u4⟩ := hq
      refine mt_khgC (d := 244) u1 of ?_
      intro h5 v1 v2
      have e := me_nil v2
      subst e
      refine ⟨u1, F2.trans (u2.wide (fun c hc => ab_swr_ok (by decide) hc)), ⟨c1, c2⟩, c3, s', q6 [] rfl, by rw [u3, t1], by omega, ⟨u3.trans t1, fun k hk => ?_⟩, ?_, fun k hk => ?_⟩
      · obtain ⟨l, q, hl⟩ := t2 k hk
        obtain ⟨x1, x2, -⟩ := u4 k (by omega)
        exact ⟨l, q, by rw [x1, x2]; exact hl⟩
      · rw [show gm_T ((zx, zf, [], 0, []) : gm_S) = [] from gm_T_mk _ _ _ _ _, List.nil_append] at qa
        rw [qa]
        rw [show gm_D ((zx, zf, [], 0, []) : gm_S) = 0 from gm_D_mk _ _ _ _ _] at qb
        exact qb
      · rw [show gm_T ((zx, zf, [], 0, []) : gm_S) = [] from gm_T_mk _ _ _ _ _] at qa qc
        rw [List.nil_append] at qa
        have := qc k (by rw [← qa]; exact hk)
        rw [← qa] at this
        have e0 : ([] : List (Int × Int × Int)).length + k = k := Nat.zero_add k
        rw [e0] at this
        rw [this, (u4 k (by omega)).2.2]
    · intro b1 z h3 r1 r2
      have e := me_nil r2
      subst e
      rcases q4 with ⟨-, -, q4⟩ | ⟨-, q4, -⟩
      · exact mg_thr (M := (4, 1, sb_158)) (x := 15) rfl rfl rfl ⟨h3, rfl, q1, F2, Or.inr (Or.inr ⟨rfl, ⟨c1, c2⟩, c3, q4 [] rfl⟩)⟩
      · exfalso; omega
  · intro b c1 c2 c3 h1 g1 g2
    have e := me_nil g2
    subst e
    exact mg_thr (M := (4, 1, sb_158)) (x := 14) rfl rfl rfl ⟨h1, rfl, g1, ab_Fr.refl, Or.inr (Or.inl ⟨rfl, ⟨c1, c2⟩, c3⟩)⟩
  · intro c1 c h1 g1 g2
    have e := me_nil g2
    subst e
    exact mg_thr (M := (4, 1, sb_158)) (x := 13) rfl rfl rfl ⟨h1, rfl, g1, ab_Fr.refl, Or.inl ⟨rfl, Or.inr c⟩⟩
end GCX
