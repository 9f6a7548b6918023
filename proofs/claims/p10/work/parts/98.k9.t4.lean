/-! THE START: at the law's loop -/
def s4_H0 : sa_H := .inl (99, 0, []) :: (sq_S ++ sq_B)
def s4_fz (e : Option sa_E) (ks : List Nat) : Bool := match e with
  | some (.inr (_, fs)) => ks.all (fun k => decide (fs[k]? = some (.int 0)))
  | _ => false
def s4_az (e : Option sa_E) : Bool := match e with
  | some (.inl (t, _, l)) => decide (t ≠ 1) && l.isEmpty
  | _ => false
def s4_two (H : sa_H) : Bool := s4_fz H[109]? [1, 2, 3, 7, 9, 10, 63, 65] && (s4_fz H[51]? [14, 15] && (s4_fz H[52]? [1] && (s4_az H[53]? && (s4_az H[110]? && (s4_fz H[54]? [1] && (s4_fz H[56]? [1] && (s4_fz H[94]? [0] && s4_fz H[98]? [0])))))))
def s4_good (r : Option (sm_L × sa_H)) : Bool := match r with
  | some (ls, H) => decide (ls = xl_ls 0 none none none) && (s4_chk sx_sk H && (decide (H.length = 172) && (decide ((H.map sa_sz).sum ≤ 100000) && s4_two H)))
  | none => false
theorem s4_comp : s4_good (s4_run 40 0 (sm_entry 8 [.ref 0]) [] s4_H0) = true := by decide +kernel
theorem s4_szs {ρ : Nat → Int32} {μ : UInt64 → Int64} (H : sa_H) : sm_sl (sa_gh ρ μ H) = (H.map sa_sz).sum := by
  unfold sm_sl
  rw [List.map_map]
  congr 1
  apply List.map_congr_left
  intro e _
  cases e with
  | inl x => rfl
  | inr x => exact List.length_map _
theorem s4_set0 (h : sm_H) (e : sm_E) : sm_sl (h.set 0 e) ≤ sm_sl h + sm_sz e := by
  cases h with
  | nil => exact Nat.zero_le _
  | cons x r =>
    show ((e :: r).map sm_sz).sum ≤ ((x :: r).map sm_sz).sum + sm_sz e
    simp only [List.map_cons, List.sum_cons]
    omega
theorem s4_fld {h : sm_H} {ci c k f : Nat} {fs : List Value} (hk : c / 128 = k) (hf : c % 128 = f) (h1 : h[k]? = some (.inr (ci, fs))) (h2 : fs[f]? = some (.int 0)) : mi_f h c = 0 := by
  unfold mi_f mx_i ab_fld
  rw [hk, hf, h1]
  simp only [h2]
  rfl
section S4Z
variable {ρ : Nat → Int32} {μ : UInt64 → Int64} {H : sa_H} {e : sm_E}
theorem s4_fz_ok {k c j : Nat} {ks : List Nat} (h : s4_fz H[k]? ks = true) (hk : k ≠ 0) (hj : j ∈ ks) (h1 : c / 128 = k) (h2 : c % 128 = j) : mi_f ((sa_gh ρ μ H).set 0 e) c = 0 := by
  unfold s4_fz at h
  split at h
  · next ci fs hh =>
    have f1 := of_decide_eq_true (List.all_eq_true.mp h j hj)
    have g : ((sa_gh ρ μ H).set 0 e)[k]? = some (.inr (ci, fs.map (sa_g ρ μ))) := by
      rw [List.getElem?_set_ne (Ne.symm hk), List.getElem?_map, hh]
      rfl
    exact s4_fld h1 h2 g (by rw [List.getElem?_map, f1]; rfl)
  · cases h
theorem s4_az_ok {k : Nat} (h : s4_az H[k]? = true) (hk : k ≠ 0) : mi_a ((sa_gh ρ μ H).set 0 e) k = fun _ => 0 := by
  unfold s4_az at h
  split at h
  · next t n l hh =>
    rw [Bool.and_eq_true, List.isEmpty_iff] at h
    obtain ⟨h1, rfl⟩ := h
    have h1 : t ≠ 1 := of_decide_eq_true h1
    have g : ((sa_gh ρ μ H).set 0 e)[k]? = some (.inl (t, n, .inl (sa_fi ρ μ []))) := by
      rw [List.getElem?_set_ne (Ne.symm hk), List.getElem?_map, hh]
      show some (Sum.inl (t, n, if t = 1 then _ else _)) = _
      rw [if_neg h1]
    funext i
    unfold mi_a mx_a
    rw [g]
    rfl
  · cases h
end S4Z
theorem s4_end {ρ : Nat → Int32} {μ : UInt64 → Int64} {L : Nat} {l0 : List (Nat × Value)} (hL : L ≤ 2048) {r : Option (sm_L × sa_H)} (hr : s4_good r = true) : ∃ ls H, r = some (ls, H) ∧ lb_Ends sc_P sc_PW sl_tab 300 23 (sa_gl ρ μ ls) [] ((sa_gh ρ μ H).set 0 (sa_ge ρ μ (.inl (0, L, l0)))) (fun h' => h'.length ≤ 1000 ∧ sm_sl h' ≤ 200000) := by
  unfold s4_good at hr
  split at hr
  · next ls H =>
    simp only [Bool.and_eq_true, decide_eq_true_eq] at hr
    obtain ⟨r1, r2, r3, r4, r5⟩ := hr
    refine ⟨ls, H, rfl, ?_⟩
    subst r1
    have hSh : ab_Sh sx_sk ((sa_gh ρ μ H).set 0 (sa_ge ρ μ (.inl (0, L, l0)))) := s4_Sh r2 (fun s c => by
      have : sx_sk[0]? = some none := rfl
      rw [this] at c
      cases c)
    have hlen : ((sa_gh ρ μ H).set 0 (sa_ge ρ μ (.inl (0, L, l0)))).length = 172 := by rw [List.length_set, List.length_map]; exact r3
    have hsl : sm_sl ((sa_gh ρ μ H).set 0 (sa_ge ρ μ (.inl (0, L, l0)))) ≤ 100000 + L := by
      refine Nat.le_trans (s4_set0 _ _) ?_
      rw [s4_szs]
      have : sm_sz (sa_ge ρ μ (.inl (0, L, l0))) = L := rfl
      omega
    have h0 : ((sa_gh ρ μ H).set 0 (sa_ge ρ μ (.inl (0, L, l0))))[0]? = some (.inl (0, L, .inl (sa_fi ρ μ l0))) := by
      rw [List.getElem?_set_self (by rw [List.length_map]; omega)]
      rfl
    unfold s4_two at r5
    simp only [Bool.and_eq_true] at r5
    obtain ⟨u1, u2, u3, u4, u5, u6, u7, u8, u9⟩ := r5
    generalize hg : (sa_gh ρ μ H).set 0 (sa_ge ρ μ (.inl (0, L, l0))) = g at *
    have z1 : mi_f g 13953 = 0 := by rw [← hg]; exact s4_fz_ok (j := 1) u1 (by decide) (by decide) rfl rfl
    have z2 : mi_f g 13959 = 0 := by rw [← hg]; exact s4_fz_ok (j := 7) u1 (by decide) (by decide) rfl rfl
    have z3 : mi_f g 14015 = 0 := by rw [← hg]; exact s4_fz_ok (j := 63) u1 (by decide) (by decide) rfl rfl
    have z4 : mi_f g 6543 = 0 := by rw [← hg]; exact s4_fz_ok (j := 15) u2 (by decide) (by decide) rfl rfl
    have z5 : mi_f g 6657 = 0 := by rw [← hg]; exact s4_fz_ok (j := 1) u3 (by decide) (by decide) rfl rfl
    have z6 : mi_a g 53 = fun _ => 0 := by rw [← hg]; exact s4_az_ok u4 (by decide)
    have z7 : mi_a g 110 = fun _ => 0 := by rw [← hg]; exact s4_az_ok u5 (by decide)
    have ht : rl_t g := by
      refine ⟨z5.trans z1.symm, z6.trans z7.symm, ?_⟩
      unfold cx_ok
      rw [z5]
      intro i hi
      exact absurd hi (by omega)
    have y0 : mi_f g 13954 = 0 := by rw [← hg]; exact s4_fz_ok (j := 2) u1 (by decide) (by decide) rfl rfl
    have y1 : mi_f g 13955 = 0 := by rw [← hg]; exact s4_fz_ok (j := 3) u1 (by decide) (by decide) rfl rfl
    have y2 : mi_f g 13961 = 0 := by rw [← hg]; exact s4_fz_ok (j := 9) u1 (by decide) (by decide) rfl rfl
    have y3 : mi_f g 13962 = 0 := by rw [← hg]; exact s4_fz_ok (j := 10) u1 (by decide) (by decide) rfl rfl
    have y4 : mi_f g 14017 = 0 := by rw [← hg]; exact s4_fz_ok (j := 65) u1 (by decide) (by decide) rfl rfl
    have y5 : mi_f g 6542 = 0 := by rw [← hg]; exact s4_fz_ok (j := 14) u2 (by decide) (by decide) rfl rfl
    have y6 : mi_f g 6913 = 0 := by rw [← hg]; exact s4_fz_ok (j := 1) u6 (by decide) (by decide) rfl rfl
    have y7 : mi_f g 7169 = 0 := by rw [← hg]; exact s4_fz_ok (j := 1) u7 (by decide) (by decide) rfl rfl
    have y8 : mi_f g 12032 = 0 := by rw [← hg]; exact s4_fz_ok (j := 0) u8 (by decide) (by decide) rfl rfl
    have y9 : mi_f g 12544 = 0 := by rw [← hg]; exact s4_fz_ok (j := 0) u9 (by decide) (by decide) rfl rfl
    have hc : r9_c g := ⟨⟨fun c => absurd z4 c, fun c => by omega⟩, fun c => by omega, by omega, ⟨fun c => absurd y5 c, fun c => absurd z2 c⟩, fun c => absurd z2 c⟩
    have hR : R9 g := ⟨ht, ⟨y6.trans y0.symm, fun i hi => by rw [y0] at hi; omega⟩, ⟨y7.trans y1.symm, fun i hi => by rw [y1] at hi; omega⟩, hc, ⟨[], ⟨z3, fun k hk => absurd hk (Nat.not_lt_zero k), fun k j hk => absurd hk (Nat.not_lt_zero k)⟩, ⟨⟨y8, fun k hk => absurd hk (Nat.not_lt_zero k)⟩, fo_nil, fun k hk => absurd hk (Nat.not_lt_zero k)⟩, Nat.zero_le _, fun c => absurd rfl c⟩, ⟨⟨y9.trans y4.symm, fun i hi => by rw [y4] at hi; omega⟩, fun _ => ⟨y2, y3⟩⟩⟩
    have hM : M9 g := ⟨mj_of hSh ⟨fun c => by rw [z2] at c; omega, fun c => absurd z3 c⟩, hSh, hR⟩
    have hJ : lj_J M9 L (sa_fi ρ μ l0) g := ⟨hM, by omega, h0⟩
    have hls : sa_gl ρ μ (xl_ls 0 none none none) = xl_ls 0 none none none := rfl
    rw [hls]
    exact c5_loop (C := 1000) (S := 200000) hL 512 0 none none none _ (by decide) (by decide) (by show (L : Int) < 0 + 4 * ((512 : Nat) : Int) + 4; omega) hSh hJ (by omega) (by omega)
  · cases hr
theorem s4_look {L : Nat} {xs : Nat → Int32} (j : Nat) (hj : j < L) : sa_fi (fun _ => 0) (fun _ => 0) ((((List.range L).map xs).zipIdx 0).map (fun z => (z.2, Value.int z.1))) j = xs j := by
  have h := sq_look ((List.range L).map xs) j 0 (by rw [List.length_map, List.length_range]; exact hj)
  rw [Nat.zero_add] at h
  unfold sa_fi
  rw [h]
  show ((List.range L).map xs).getD j 0 = xs j
  rw [List.getD_eq_getElem?_getD, List.getElem?_map, List.getElem?_range hj]
  rfl
theorem s4_all {L : Nat} (hL : L ≤ 2048) (xs : Nat → Int32) : ∃ (ρ : Nat → Int32) (μ : UInt64 → Int64) (l0 : List (Nat × Value)), (∀ j, j < L → sa_fi ρ μ l0 j = xs j) ∧ lb_Ends sc_P sc_PW sl_tab 300 0 (sm_entry 8 [.ref 0]) [] (sa_gh ρ μ (sq_K L l0)) (fun h' => h'.length ≤ 1000 ∧ sm_sl h' ≤ 200000) := by
  refine ⟨fun _ => 0, fun _ => 0, (((List.range L).map xs).zipIdx 0).map (fun z => (z.2, Value.int z.1)), s4_look, ?_⟩
  obtain ⟨ls, H, hr, hE⟩ := s4_end (ρ := fun _ => 0) (μ := fun _ => 0) (l0 := (((List.range L).map xs).zipIdx 0).map (fun z => (z.2, Value.int z.1))) hL s4_comp
  exact s4_run_ok (e := sa_ge (fun _ => 0) (fun _ => 0) (.inl (0, L, (((List.range L).map xs).zipIdx 0).map (fun z => (z.2, Value.int z.1))))) 40 0 (sm_entry 8 [.ref 0]) [] s4_H0 ls H hr rfl hE
