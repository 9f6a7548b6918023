/-! THE START: at the law's loop -/
def s4_H0 : sa_H := .inl (99, 0, []) :: (sq_S ++ sq_B)
def s4_two (e : Option sa_E) : Bool := match e with
  | some (.inr (_, fs)) => decide (fs[7]? = some (.int 0) ∧ fs[63]? = some (.int 0))
  | _ => false
def s4_good (r : Option (sm_L × sa_H)) : Bool := match r with
  | some (ls, H) => decide (ls = xl_ls 0 none none none) && (s4_chk sx_sk H && (decide (H.length = 172) && (decide ((H.map sa_sz).sum ≤ 100000) && s4_two H[109]?)))
  | none => false
theorem s4_comp : s4_good (s4_run 40 0 (sm_entry 8 [.ref 0]) [] s4_H0) = true := by decide +kernel
theorem s4_szs {ρ : Nat → Int32} {μ : UInt64 → Int64} (H : sa_H) : sm_sl (sa_gh ρ μ H) = (H.map sa_sz).sum := by
  unfold sm_sl
  rw [List.map_map]
  congr 1
  apply List.map_congr_left
  intro e _
  cases e with
  | inl x => rfl
  | inr x => exact List.length_map _
theorem s4_set0 (h : sm_H) (e : sm_E) : sm_sl (h.set 0 e) ≤ sm_sl h + sm_sz e := by
  cases h with
  | nil => exact Nat.zero_le _
  | cons x r =>
    show ((e :: r).map sm_sz).sum ≤ ((x :: r).map sm_sz).sum + sm_sz e
    simp only [List.map_cons, List.sum_cons]
    omega
theorem s4_fld {h : sm_H} {ci c k f : Nat} {fs : List Value} (hk : c / 128 = k) (hf : c % 128 = f) (h1 : h[k]? = some (.inr (ci, fs))) (h2 : fs[f]? = some (.int 0)) : mi_f h c = 0 := by
  unfold mi_f mx_i ab_fld
  rw [hk, hf, h1]
  simp only [h2]
  rfl
theorem s4_end {ρ : Nat → Int32} {μ : UInt64 → Int64} {L : Nat} {l0 : List (Nat × Value)} (hL : L ≤ 2048) {r : Option (sm_L × sa_H)} (hr : s4_good r = true) : ∃ ls H, r = some (ls, H) ∧ lb_Ends sc_P sc_PW sl_tab 300 23 (sa_gl ρ μ ls) [] ((sa_gh ρ μ H).set 0 (sa_ge ρ μ (.inl (0, L, l0)))) (fun h' => h'.length ≤ 1000 ∧ sm_sl h' ≤ 200000) := by
  unfold s4_good at hr
  split at hr
  · next ls H =>
    simp only [Bool.and_eq_true, decide_eq_true_eq] at hr
    obtain ⟨r1, r2, r3, r4, r5⟩ := hr
    refine ⟨ls, H, rfl, ?_⟩
    subst r1
    have hSh : ab_Sh sx_sk ((sa_gh ρ μ H).set 0 (sa_ge ρ μ (.inl (0, L, l0)))) := s4_Sh r2 (fun s c => by
      have : sx_sk[0]? = some none := rfl
      rw [this] at c
      cases c)
    have hlen : ((sa_gh ρ μ H).set 0 (sa_ge ρ μ (.inl (0, L, l0)))).length = 172 := by rw [List.length_set, List.length_map]; exact r3
    have hsl : sm_sl ((sa_gh ρ μ H).set 0 (sa_ge ρ μ (.inl (0, L, l0)))) ≤ 100000 + L := by
      refine Nat.le_trans (s4_set0 _ _) ?_
      rw [s4_szs]
      have : sm_sz (sa_ge ρ μ (.inl (0, L, l0))) = L := rfl
      omega
    have h0 : ((sa_gh ρ μ H).set 0 (sa_ge ρ μ (.inl (0, L, l0))))[0]? = some (.inl (0, L, .inl (sa_fi ρ μ l0))) := by
      rw [List.getElem?_set_self (by rw [List.length_map]; omega)]
      rfl
    have fl : mi_f ((sa_gh ρ μ H).set 0 (sa_ge ρ μ (.inl (0, L, l0)))) 13959 = 0 ∧ mi_f ((sa_gh ρ μ H).set 0 (sa_ge ρ μ (.inl (0, L, l0)))) 14015 = 0 := by
      unfold s4_two at r5
      split at r5
      · next ci fs h109 =>
        obtain ⟨f1, f2⟩ := of_decide_eq_true r5
        have hh : ((sa_gh ρ μ H).set 0 (sa_ge ρ μ (.inl (0, L, l0))))[109]? = some (.inr (ci, fs.map (sa_g ρ μ))) := by
          rw [List.getElem?_set_ne (by decide), List.getElem?_map, h109]
          rfl
        exact ⟨s4_fld (k := 109) (f := 7) rfl rfl hh (by rw [List.getElem?_map, f1]; rfl), s4_fld (k := 109) (f := 63) rfl rfl hh (by rw [List.getElem?_map, f2]; rfl)⟩
      · cases r5
    have hM : MJ ((sa_gh ρ μ H).set 0 (sa_ge ρ μ (.inl (0, L, l0)))) := mj_of hSh ⟨fun c => by rw [fl.1] at c; omega, fun c => absurd fl.2 c⟩
    have hJ : lj_J MJ L (sa_fi ρ μ l0) ((sa_gh ρ μ H).set 0 (sa_ge ρ μ (.inl (0, L, l0)))) := ⟨hM, by omega, h0⟩
    have hls : sa_gl ρ μ (xl_ls 0 none none none) = xl_ls 0 none none none := rfl
    rw [hls]
    exact c5_loop (C := 1000) (S := 200000) mj_MJ (mj_Ok rd_ok) hL 512 0 none none none _ (by decide) (by decide) (by show (L : Int) < 0 + 4 * ((512 : Nat) : Int) + 4; omega) hSh hJ (by omega) (by omega)
  · cases hr
theorem s4_look {L : Nat} {xs : Nat → Int32} (j : Nat) (hj : j < L) : sa_fi (fun _ => 0) (fun _ => 0) ((((List.range L).map xs).zipIdx 0).map (fun z => (z.2, Value.int z.1))) j = xs j := by
  have h := sq_look ((List.range L).map xs) j 0 (by rw [List.length_map, List.length_range]; exact hj)
  rw [Nat.zero_add] at h
  unfold sa_fi
  rw [h]
  show ((List.range L).map xs).getD j 0 = xs j
  rw [List.getD_eq_getElem?_getD, List.getElem?_map, List.getElem?_range hj]
  rfl
theorem s4_all {L : Nat} (hL : L ≤ 2048) (xs : Nat → Int32) : ∃ (ρ : Nat → Int32) (μ : UInt64 → Int64) (l0 : List (Nat × Value)), (∀ j, j < L → sa_fi ρ μ l0 j = xs j) ∧ lb_Ends sc_P sc_PW sl_tab 300 0 (sm_entry 8 [.ref 0]) [] (sa_gh ρ μ (sq_K L l0)) (fun h' => h'.length ≤ 1000 ∧ sm_sl h' ≤ 200000) := by
  refine ⟨fun _ => 0, fun _ => 0, (((List.range L).map xs).zipIdx 0).map (fun z => (z.2, Value.int z.1)), s4_look, ?_⟩
  obtain ⟨ls, H, hr, hE⟩ := s4_end (ρ := fun _ => 0) (μ := fun _ => 0) (l0 := (((List.range L).map xs).zipIdx 0).map (fun z => (z.2, Value.int z.1))) hL s4_comp
  exact s4_run_ok (e := sa_ge (fun _ => 0) (fun _ => 0) (.inl (0, L, (((List.range L).map xs).zipIdx 0).map (fun z => (z.2, Value.int z.1))))) 40 0 (sm_entry 8 [.ref 0]) [] s4_H0 ls H hr rfl hE
