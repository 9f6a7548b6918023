/-! texts: what type, clear, sample do, on both sides -/
/-- characters are put at the end -/
def apl : List Int → Nat → (Nat → Int) → Nat → Int
  | [], _, c => c
  | x :: r, n, c => apl r (n + 1) (fun j => if j = n then x else c j)
theorem apl_app : ∀ (s t : List Int) (n : Nat) (c : Nat → Int), apl (s ++ t) n c = apl t (n + s.length) (apl s n c) := by
  intro s
  induction s with
  | nil => intro t n c; rfl
  | cons x r ih =>
    intro t n c
    show apl (r ++ t) (n + 1) _ = apl t (n + (r.length + 1)) _
    rw [ih, show n + 1 + r.length = n + (r.length + 1) by omega]
    rfl
def tx_al (z : Int) : Prop := z = 10 ∨ (32 ≤ z ∧ z ≤ 126)
theorem apl_ok : ∀ (s : List Int) (n : Nat) (c : Nat → Int), (∀ x ∈ s, tx_al x) → (∀ i : Nat, i < n → tx_al (c i)) → ∀ i : Nat, i < n + s.length → tx_al (apl s n c i) := by
  intro s
  induction s with
  | nil => intro n c _ hc i hi; exact hc i hi
  | cons x r ih =>
    intro n c hs hc i hi
    refine ih (n + 1) _ (fun y hy => hs y (List.mem_cons_of_mem _ hy)) (fun j hj => ?_) i (by rw [List.length_cons] at hi; omega)
    show tx_al (if j = n then x else c j)
    split
    · exact hs x List.mem_cons_self
    · exact hc j (by omega)
/-- one character: the text before and behind -/
def ef_c (z n n' : Int) (c c' : Nat → Int) : Prop := (tx_al z ∧ n < 240 ∧ n' = n + 1 ∧ c' = fun j => if j = n.toNat then z else c j) ∨ (¬ (tx_al z ∧ n < 240) ∧ n' = n ∧ c' = c)
section TXC
variable {d : Nat} {h : sm_H}
theorem me_castore {m pc : Nat} {M : sm_M} {ls : mi_L} {v i : Int} {Q : Option mi_V → sm_H → Prop} (hM : sc_P m = some M) (hq : M.2.2[pc]? = some (some (.castore, 1, []))) (hS : ab_Sh sx_sk h) (v0 : 0 ≤ v) (v1 : v ≤ 65535) (i0 : 0 ≤ i) (i1 : i < 240) (K : ∀ h1, ab_Sh sx_sk h1 → (∀ j, mi_a h1 53 j = if j = i.toNat then v else mi_a h 53 j) → ab_Fr [(6784, 6785)] h h1 → me_E d m (pc + 1) ls [] h1 Q) : me_E d m pc ls [.inl v, .inl i, .inr (.inr 53)] h Q := by
  have ov : mi_in v := ⟨by omega, by omega⟩
  have oi : mi_in i := ⟨by omega, by omega⟩
  have tv := mi_ti ov
  have ti := mi_ti oi
  have ev : (sm_chr (Int32.ofInt v)).toInt = v := by
    rw [ab_chr_eq, tv]
    omega
  have en : (Int32.ofInt i).toNatClampNeg = i.toNat := by
    unfold Int32.toNatClampNeg
    rw [ti]
  have hs : mx_step sx_sk (.castore, 1, []) pc (mi_cl ls) [.int (Int32.ofInt v), .int (Int32.ofInt i), .ref 53] h 0 = some (pc + 1, mi_cl ls, [], mx_pa h 53 (Int32.ofInt i).toNatClampNeg (sm_chr (Int32.ofInt v)), [0 ≤ (Int32.ofInt i).toInt ∧ (Int32.ofInt i).toInt < ((240 : Nat) : Int), 0 ≤ (sm_chr (Int32.ofInt v)).toInt ∧ (sm_chr (Int32.ofInt v)).toInt ≤ 65535]) := rfl
  obtain ⟨e1, e2⟩ := mx_step_ok hs hS (fun p hp => by
    simp only [List.mem_cons, List.not_mem_nil, or_false] at hp
    rcases hp with rfl | rfl
    · rw [ti]; omega
    · rw [ev]; omega)
  obtain ⟨f, hf, -⟩ := mx_arr (a := 53) (t := 2) (n := 240) (lo := 0) (hi := 65535) (ex := []) hS rfl (by decide)
  have ep : mx_pa h 53 (Int32.ofInt i).toNatClampNeg (sm_chr (Int32.ofInt v)) = h.set 53 (.inl (2, 240, .inl (upd f (Int32.ofInt i).toNatClampNeg (sm_chr (Int32.ofInt v))))) := by
    unfold mx_pa
    rw [hf]
  refine ab_Ends.step hM hq e1 (K _ e2 (fun j => ?_) ?_)
  · unfold mi_a
    rw [mx_a_pa (mx_Sh_Sp hS) rfl, en]
    by_cases c : j = i.toNat
    · rw [if_pos c, if_pos ⟨rfl, c⟩, ev]
    · rw [if_neg c, if_neg (fun q => c q.2)]
  · show ab_Fr _ h (mx_pa h 53 (Int32.ofInt i).toNatClampNeg (sm_chr (Int32.ofInt v)))
    rw [ep]
    exact ab_Fr_arr hf rfl (by decide)
def tx_W : List (Nat × Nat) := [(6657, 6658), (6784, 6785)]
def ap_Q (z : Int) (h : sm_H) (w : Option mi_V) (h' : sm_H) : Prop := (∃ y, w = some (.inl y) ∧ (y = 0 ∨ y = 1)) ∧ ab_Sh sx_sk h' ∧ ab_Fr tx_W h h' ∧ ef_c z (mi_f h 6657) (mi_f h' 6657) (mi_a h 53) (mi_a h' 53)
theorem me_append {zc : Int} (hS : ab_Sh sx_sk h) (z0 : 0 ≤ zc) (z1 : zc ≤ 65535) : me_E d 91 0 [some (.inr (.inr 52)), some (.inl zc), none] [] h (ap_Q zc h) := by
  have oc : mi_in zc := ⟨by omega, by omega⟩
  have no : ∀ h1, ab_Sh sx_sk h1 → ab_Fr [] h h1 → ¬ (tx_al zc ∧ mi_f h 6657 < 240) → ap_Q zc h (some (.inl 0)) h1 := fun h1 g1 g2 n => by
    have e0 := me_nil g2
    subst e0
    exact ⟨⟨0, rfl, Or.inl rfl⟩, g1, ab_Fr.refl, Or.inr ⟨n, rfl, rfl⟩⟩
  have t24 : ∀ zl, (zl = 0 ∨ zl = 1) → (zl = 1 ↔ tx_al zc) → me_E d 91 24 [some (.inr (.inr 52)), some (.inl zc), some (.inl zl)] [] h (ap_Q zc h) := by
    intro zl l01 hl
    refine mt_apB hS oc ⟨by omega, by omega⟩ ?_ ?_ ?_ ?_
    · intro c1 h1 g1 g2
      exact no h1 g1 g2 (fun q => by have := hl.mpr q.1; omega)
    · intro b c1 c2; exfalso; omega
    · intro b c1 c2 c3 h1 g1 g2
      have e0 := me_nil g2
      subst e0
      refine me_castore (m := 91) (M := (3, 4, sb_91)) rfl rfl hS z0 z1 c2 c3 (fun h2 s1 s2 s3 => ?_)
      have e57 : mi_f h2 6657 = mi_f h1 6657 := me_f (c := 6657) s3 hS rfl rfl
      refine mt_apC s1 oc ⟨by omega, by omega⟩ (fun b => ⟨by omega, fun h3 t1 t2 t3 => ⟨⟨1, rfl, Or.inr rfl⟩, t1, (s3.wide (fun c hc => ab_swr_ok (by decide) hc)).trans (t3.wide (fun c hc => ab_swr_ok (by decide) hc)), Or.inl ⟨hl.mp (by omega), c3, by rw [t2, e57], funext fun j => ?_⟩⟩⟩)
      rw [me_a (k := 53) t3 s1 rfl rfl]
      exact s2 j
    · intro b c1 c2 c3 h1 g1 g2
      exact no h1 g1 g2 (fun q => by have := q.2; omega)
  refine mt_apA hS oc ?_ ?_ ?_ ?_ ?_
  · intro c1 c2 h1 g1 g2
    have e0 := me_nil g2
    subst e0
    exact t24 0 (Or.inl rfl) ⟨fun q => absurd q (by decide), fun q => by unfold tx_al at q; omega⟩
  · intro c1 c2 h1 g1 g2
    have e0 := me_nil g2
    subst e0
    exact t24 1 (Or.inr rfl) ⟨fun _ => Or.inl c2, fun _ => rfl⟩
  · intro c1 c2 h1 g1 g2
    have e0 := me_nil g2
    subst e0
    exact t24 1 (Or.inr rfl) ⟨fun _ => Or.inr ⟨c1, c2⟩, fun _ => rfl⟩
  · intro c1 c2 c3 h1 g1 g2
    have e0 := me_nil g2
    subst e0
    exact t24 0 (Or.inl rfl) ⟨fun q => absurd q (by decide), fun q => by unfold tx_al at q; omega⟩
  · intro c1 c2 c3; exfalso; omega
set_option maxRecDepth 20000 in
theorem xo_tx0 : ab_Ok sc_P sx_sk (96, [(3, 51, 0, []), (1, 0, 0, [])], [], [((3, 52, 0, []), [])], [], 0) := ab_good_ok (env := []) (heads := []) (fuel := 20) (by decide +kernel) (fun _ h => absurd h List.not_mem_nil)
set_option maxRecDepth 20000 in
theorem xo_tx1 : ab_Ok sc_P sx_sk (96, [(3, 51, 0, []), (1, 1, 1, [])], [], [((3, 54, 0, []), [])], [], 0) := ab_good_ok (env := []) (heads := []) (fuel := 20) (by decide +kernel) (fun _ h => absurd h List.not_mem_nil)
theorem me_resR {k : Nat} {a : ab_V} {w : Option mi_V} (h : mi_res k a w) (hk : k ≠ 0) (ha : a.1 = 3) : w = some (.inr (.inr a.2.1.toNat)) := by
  unfold mi_res at h
  rw [if_neg hk] at h
  rcases h with ⟨e, -⟩ | ⟨e, -⟩ | ⟨-, e⟩
  · rw [ha] at e; exact absurd e (by decide)
  · rw [ha] at e; exact absurd e (by decide)
  · exact e
theorem me_text0 (hS : ab_Sh sx_sk h) : me_E d 96 0 [some (.inr (.inr 51)), some (.inl 0)] [] h (fun w h' => h' = h ∧ w = some (.inr (.inr 52))) := by
  have A := me_abs (as := [.inr (.inr 51), .inl 0]) xo_tx0 rfl hS ⟨rfl, me_nv1 fm_in0 (by decide) (by decide), trivial⟩ (fun e he => by cases he) (by decide)
  refine (me_E.deep (d' := d) A (Nat.zero_le _)).imp (fun w h' hq => ?_)
  obtain ⟨q1, q2, p, hp, q3, -⟩ := hq
  rcases List.mem_cons.mp hp with rfl | hp
  · exact ⟨me_nil q2, me_resR q3 (by decide) rfl⟩
  · cases hp
theorem me_text1 (hS : ab_Sh sx_sk h) : me_E d 96 0 [some (.inr (.inr 51)), some (.inl 1)] [] h (fun w h' => h' = h ∧ w = some (.inr (.inr 54))) := by
  have A := me_abs (as := [.inr (.inr 51), .inl 1]) xo_tx1 rfl hS ⟨rfl, me_nv1 fm_in1 (by decide) (by decide), trivial⟩ (fun e he => by cases he) (by decide)
  refine (me_E.deep (d' := d) A (Nat.zero_le _)).imp (fun w h' hq => ?_)
  obtain ⟨q1, q2, p, hp, q3, -⟩ := hq
  rcases List.mem_cons.mp hp with rfl | hp
  · exact ⟨me_nil q2, me_resR q3 (by decide) rfl⟩
  · cases hp
end TXC
/-! the samples -/
def sw_s11 : List Int := [69, 32, 61, 32, 84, 32, 40, 32, 40, 32, 39, 43, 32, 124, 32, 39, 45, 32, 41, 32, 84, 32, 41, 42, 32, 59, 10, 84, 32, 61, 32, 70, 32, 40, 32, 40, 32, 39, 42, 32, 124, 32, 39, 47, 32, 41, 32, 70, 32, 41, 42, 32, 59, 10, 70, 32, 61, 32, 110, 117, 109, 98, 101, 114, 32, 124, 32, 110, 97, 109, 101, 32, 124, 32, 39, 40, 32, 69, 32, 39, 41, 32, 59, 10]
set_option maxRecDepth 20000 in
theorem sw_al11 : ∀ x ∈ sw_s11, tx_al x := by unfold tx_al; decide +kernel
set_option maxRecDepth 20000 in
theorem xo_ln11 : ab_Ok sc_P sx_sk (27, [(3, 11, 0, [])], [], [((1, 84, 84, []), [])], [], 5) := ab_good_ok (env := []) (heads := []) (fuel := 40) (by decide +kernel) (fun _ h => absurd h List.not_mem_nil)
set_option maxRecDepth 20000 in
theorem xo_ch11 : (List.range 84).all (fun k => ab_good sc_P sx_sk [] [] [] 60 (29, [(3, 11, 0, []), (1, (k : Int), (k : Int), [])], [], [((1, sw_s11.getD k 0, sw_s11.getD k 0, []), [])], [], 5)) = true := by decide +kernel
section SW11
variable {d : Nat} {h h0 : sm_H}
theorem me_ln11 (hS : ab_Sh sx_sk h) : me_E (d + 5) 27 0 [some (.inr (.inr 11))] [] h (fun w h' => h' = h ∧ w = some (.inl 84)) := me_abs1 (m := 27) (M := (1, 1, sb_27)) (as := [.inr (.inr 11)]) xo_ln11 rfl rfl (by decide) hS ⟨rfl, trivial⟩
theorem me_ch11 {k : Nat} (hS : ab_Sh sx_sk h) (k1 : k < 84) : me_E (d + 5) 29 0 [some (.inr (.inr 11)), some (.inl (k : Int))] [] h (fun w h' => h' = h ∧ w = some (.inl (sw_s11.getD k 0))) := me_abs1 (m := 29) (M := (2, 5, sb_29)) (as := [.inr (.inr 11), .inl (k : Int)]) (ab_good_ok (List.all_eq_true.mp xo_ch11 k (List.mem_range.mpr k1)) (fun _ h => absurd h List.not_mem_nil)) rfl (show sc_P 29 = some (2, 5, sb_29) from rfl) (by decide) hS ⟨rfl, me_nv1 ⟨by omega, by omega⟩ (Int.le_refl _) (Int.le_refl _), trivial⟩
theorem aa11_loop (hS0 : ab_Sh sx_sk h0) : ∀ (N k : Nat) (h : sm_H), k + N = 84 → ab_Sh sx_sk h → ab_Fr tx_W h0 h → mi_f h 6657 = k → mi_a h 53 = apl (sw_s11.take k) 0 (mi_a h0 53) → me_E (d + 6) 99 2 [some (.inr (.inr 52)), some (.inr (.inr 11)), some (.inl (k : Int))] [] h (fun w h' => w = none ∧ ab_Sh sx_sk h' ∧ ab_Fr tx_W h0 h' ∧ mi_f h' 6657 = 84 ∧ mi_a h' 53 = apl sw_s11 0 (mi_a h0 53)) := by
  intro N
  induction N with
  | zero =>
    intro k h hk hS hF hn hc
    have ok : mi_in (k : Int) := ⟨by omega, by omega⟩
    refine mt_aa11B hS ok (fun h1 g1 g2 => ?_)
    have e0 := me_nil g2
    subst e0
    refine ⟨_, me_ln11 (d := d) hS, fun w h2 oww hq => ?_⟩
    obtain ⟨rfl, rfl⟩ := hq
    refine mt_aa11C hS ok ⟨by decide, by decide⟩ ok ?_ (fun q => by exfalso; omega)
    intro c1 h3 g1 g2
    have e0 := me_nil g2
    subst e0
    refine ⟨rfl, hS, hF, by omega, ?_⟩
    rw [hc, show k = sw_s11.length from by show k = 84; omega, List.take_length]
  | succ N ih =>
    intro k h hk hS hF hn hc
    have ok : mi_in (k : Int) := ⟨by omega, by omega⟩
    have klt : k < sw_s11.length := by show k < 84; omega
    have em : sw_s11.getD k 0 = sw_s11[k] := by rw [List.getD_eq_getElem?_getD, List.getElem?_eq_getElem klt]; rfl
    have al := sw_al11 _ (List.getElem_mem klt)
    have alb : 0 ≤ sw_s11[k] ∧ sw_s11[k] ≤ 65535 := by unfold tx_al at al; omega
    refine mt_aa11B hS ok (fun h1 g1 g2 => ?_)
    have e0 := me_nil g2
    subst e0
    refine ⟨_, me_ln11 (d := d) hS, fun w h2 oww hq => ?_⟩
    obtain ⟨rfl, rfl⟩ := hq
    refine mt_aa11C hS ok ⟨by decide, by decide⟩ ok (fun q => by exfalso; omega) ?_
    intro c1 h3 g1 g2
    have e0 := me_nil g2
    subst e0
    refine ⟨_, me_ch11 (d := d) (k := k) hS (by omega), fun w h4 oww hq => ?_⟩
    obtain ⟨rfl, rfl⟩ := hq
    rw [em]
    refine mt_aa11D hS ok ⟨by omega, by omega⟩ (fun h5 g1 g2 => ?_)
    have e0 := me_nil g2
    subst e0
    refine ⟨_, me_append (d := d + 5) hS alb.1 alb.2, fun w h6 oww hq => ?_⟩
    obtain ⟨⟨y, rfl, y01⟩, q1, q2, q3⟩ := hq
    refine mt_aa11E q1 ok ⟨by omega, by omega⟩ ⟨⟨by omega, by omega⟩, fun h7 g1 g2 => ?_⟩
    have e0 := me_nil g2
    subst e0
    rcases q3 with ⟨a1, a2, a3, a4⟩ | ⟨a1, -⟩
    · have ek : (k : Int) + 1 = ((k + 1 : Nat) : Int) := by omega
      rw [ek]
      refine ih (k + 1) h7 (by omega) q1 (hF.trans q2) (by rw [a3, hn]; omega) ?_
      rw [a4, hc, hn, List.take_succ_eq_append_getElem klt, apl_app, List.length_take, show 0 + min k sw_s11.length = k by omega]
      rfl
    · exact absurd ⟨al, by rw [hn]; omega⟩ a1
theorem me_aa11 (hS : ab_Sh sx_sk h) (hn : mi_f h 6657 = 0) : me_E (d + 6) 99 0 [some (.inr (.inr 52)), some (.inr (.inr 11)), none] [] h (fun w h' => w = none ∧ ab_Sh sx_sk h' ∧ ab_Fr tx_W h h' ∧ mi_f h' 6657 = 84 ∧ mi_a h' 53 = apl sw_s11 0 (mi_a h 53)) := by
  refine mt_aa11A hS (fun h1 g1 g2 => ?_)
  have e0 := me_nil g2
  subst e0
  exact aa11_loop hS 84 0 h1 (by decide) hS ab_Fr.refl hn rfl
end SW11
def sw_s12 : List Int := [80, 32, 61, 32, 39, 123, 32, 100, 101, 101, 112, 101, 114, 32, 40, 32, 108, 105, 110, 101, 32, 83, 32, 41, 42, 32, 98, 97, 99, 107, 32, 108, 105, 110, 101, 32, 39, 125, 32, 59, 10, 83, 32, 61, 32, 34, 108, 101, 116, 34, 32, 110, 97, 109, 101, 32, 98, 108, 97, 110, 107, 32, 39, 61, 32, 98, 108, 97, 110, 107, 32, 86, 32, 39, 59, 32, 124, 32, 34, 100, 111, 34, 32, 80, 32, 124, 32, 34, 112, 117, 116, 34, 32, 86, 32, 39, 59, 32, 59, 10, 86, 32, 61, 32, 110, 97, 109, 101, 32, 124, 32, 110, 117, 109, 98, 101, 114, 32, 43, 32, 49, 32, 124, 32, 39, 45, 32, 86, 32, 59, 10]
set_option maxRecDepth 20000 in
theorem sw_al12 : ∀ x ∈ sw_s12, tx_al x := by unfold tx_al; decide +kernel
set_option maxRecDepth 20000 in
theorem xo_ln12 : ab_Ok sc_P sx_sk (27, [(3, 12, 0, [])], [], [((1, 131, 131, []), [])], [], 5) := ab_good_ok (env := []) (heads := []) (fuel := 40) (by decide +kernel) (fun _ h => absurd h List.not_mem_nil)
set_option maxRecDepth 20000 in
theorem xo_ch12 : (List.range 131).all (fun k => ab_good sc_P sx_sk [] [] [] 60 (29, [(3, 12, 0, []), (1, (k : Int), (k : Int), [])], [], [((1, sw_s12.getD k 0, sw_s12.getD k 0, []), [])], [], 5)) = true := by decide +kernel
section SW12
variable {d : Nat} {h h0 : sm_H}
theorem me_ln12 (hS : ab_Sh sx_sk h) : me_E (d + 5) 27 0 [some (.inr (.inr 12))] [] h (fun w h' => h' = h ∧ w = some (.inl 131)) := me_abs1 (m := 27) (M := (1, 1, sb_27)) (as := [.inr (.inr 12)]) xo_ln12 rfl rfl (by decide) hS ⟨rfl, trivial⟩
theorem me_ch12 {k : Nat} (hS : ab_Sh sx_sk h) (k1 : k < 131) : me_E (d + 5) 29 0 [some (.inr (.inr 12)), some (.inl (k : Int))] [] h (fun w h' => h' = h ∧ w = some (.inl (sw_s12.getD k 0))) := me_abs1 (m := 29) (M := (2, 5, sb_29)) (as := [.inr (.inr 12), .inl (k : Int)]) (ab_good_ok (List.all_eq_true.mp xo_ch12 k (List.mem_range.mpr k1)) (fun _ h => absurd h List.not_mem_nil)) rfl (show sc_P 29 = some (2, 5, sb_29) from rfl) (by decide) hS ⟨rfl, me_nv1 ⟨by omega, by omega⟩ (Int.le_refl _) (Int.le_refl _), trivial⟩
theorem aa12_loop (hS0 : ab_Sh sx_sk h0) : ∀ (N k : Nat) (h : sm_H), k + N = 131 → ab_Sh sx_sk h → ab_Fr tx_W h0 h → mi_f h 6657 = k → mi_a h 53 = apl (sw_s12.take k) 0 (mi_a h0 53) → me_E (d + 6) 99 2 [some (.inr (.inr 52)), some (.inr (.inr 12)), some (.inl (k : Int))] [] h (fun w h' => w = none ∧ ab_Sh sx_sk h' ∧ ab_Fr tx_W h0 h' ∧ mi_f h' 6657 = 131 ∧ mi_a h' 53 = apl sw_s12 0 (mi_a h0 53)) := by
  intro N
  induction N with
  | zero =>
    intro k h hk hS hF hn hc
    have ok : mi_in (k : Int) := ⟨by omega, by omega⟩
    refine mt_aa12B hS ok (fun h1 g1 g2 => ?_)
    have e0 := me_nil g2
    subst e0
    refine ⟨_, me_ln12 (d := d) hS, fun w h2 oww hq => ?_⟩
    obtain ⟨rfl, rfl⟩ := hq
    refine mt_aa12C hS ok ⟨by decide, by decide⟩ ok ?_ (fun q => by exfalso; omega)
    intro c1 h3 g1 g2
    have e0 := me_nil g2
    subst e0
    refine ⟨rfl, hS, hF, by omega, ?_⟩
    rw [hc, show k = sw_s12.length from by show k = 131; omega, List.take_length]
  | succ N ih =>
    intro k h hk hS hF hn hc
    have ok : mi_in (k : Int) := ⟨by omega, by omega⟩
    have klt : k < sw_s12.length := by show k < 131; omega
    have em : sw_s12.getD k 0 = sw_s12[k] := by rw [List.getD_eq_getElem?_getD, List.getElem?_eq_getElem klt]; rfl
    have al := sw_al12 _ (List.getElem_mem klt)
    have alb : 0 ≤ sw_s12[k] ∧ sw_s12[k] ≤ 65535 := by unfold tx_al at al; omega
    refine mt_aa12B hS ok (fun h1 g1 g2 => ?_)
    have e0 := me_nil g2
    subst e0
    refine ⟨_, me_ln12 (d := d) hS, fun w h2 oww hq => ?_⟩
    obtain ⟨rfl, rfl⟩ := hq
    refine mt_aa12C hS ok ⟨by decide, by decide⟩ ok (fun q => by exfalso; omega) ?_
    intro c1 h3 g1 g2
    have e0 := me_nil g2
    subst e0
    refine ⟨_, me_ch12 (d := d) (k := k) hS (by omega), fun w h4 oww hq => ?_⟩
    obtain ⟨rfl, rfl⟩ := hq
    rw [em]
    refine mt_aa12D hS ok ⟨by omega, by omega⟩ (fun h5 g1 g2 => ?_)
    have e0 := me_nil g2
    subst e0
    refine ⟨_, me_append (d := d + 5) hS alb.1 alb.2, fun w h6 oww hq => ?_⟩
    obtain ⟨⟨y, rfl, y01⟩, q1, q2, q3⟩ := hq
    refine mt_aa12E q1 ok ⟨by omega, by omega⟩ ⟨⟨by omega, by omega⟩, fun h7 g1 g2 => ?_⟩
    have e0 := me_nil g2
    subst e0
    rcases q3 with ⟨a1, a2, a3, a4⟩ | ⟨a1, -⟩
    · have ek : (k : Int) + 1 = ((k + 1 : Nat) : Int) := by omega
      rw [ek]
      refine ih (k + 1) h7 (by omega) q1 (hF.trans q2) (by rw [a3, hn]; omega) ?_
      rw [a4, hc, hn, List.take_succ_eq_append_getElem klt, apl_app, List.length_take, show 0 + min k sw_s12.length = k by omega]
      rfl
    · exact absurd ⟨al, by rw [hn]; omega⟩ a1
theorem me_aa12 (hS : ab_Sh sx_sk h) (hn : mi_f h 6657 = 0) : me_E (d + 6) 99 0 [some (.inr (.inr 52)), some (.inr (.inr 12)), none] [] h (fun w h' => w = none ∧ ab_Sh sx_sk h' ∧ ab_Fr tx_W h h' ∧ mi_f h' 6657 = 131 ∧ mi_a h' 53 = apl sw_s12 0 (mi_a h 53)) := by
  refine mt_aa12A hS (fun h1 g1 g2 => ?_)
  have e0 := me_nil g2
  subst e0
  exact aa12_loop hS 131 0 h1 (by decide) hS ab_Fr.refl hn rfl
end SW12
def sw_s13 : List Int := [68, 32, 61, 32, 39, 91, 32, 40, 32, 82, 32, 40, 32, 39, 44, 32, 98, 108, 97, 110, 107, 32, 82, 32, 41, 42, 32, 41, 63, 32, 39, 93, 32, 59, 10, 82, 32, 61, 32, 110, 97, 109, 101, 32, 39, 58, 32, 40, 32, 110, 117, 109, 98, 101, 114, 32, 126, 32, 85, 32, 41, 32, 59, 10, 85, 32, 61, 32, 39, 35, 32, 110, 97, 109, 101, 63, 32, 124, 32, 39, 36, 32, 124, 32, 101, 109, 112, 116, 121, 32, 59, 10]
set_option maxRecDepth 20000 in
theorem sw_al13 : ∀ x ∈ sw_s13, tx_al x := by unfold tx_al; decide +kernel
set_option maxRecDepth 20000 in
theorem xo_ln13 : ab_Ok sc_P sx_sk (27, [(3, 13, 0, [])], [], [((1, 92, 92, []), [])], [], 5) := ab_good_ok (env := []) (heads := []) (fuel := 40) (by decide +kernel) (fun _ h => absurd h List.not_mem_nil)
set_option maxRecDepth 20000 in
theorem xo_ch13 : (List.range 92).all (fun k => ab_good sc_P sx_sk [] [] [] 60 (29, [(3, 13, 0, []), (1, (k : Int), (k : Int), [])], [], [((1, sw_s13.getD k 0, sw_s13.getD k 0, []), [])], [], 5)) = true := by decide +kernel
section SW13
variable {d : Nat} {h h0 : sm_H}
theorem me_ln13 (hS : ab_Sh sx_sk h) : me_E (d + 5) 27 0 [some (.inr (.inr 13))] [] h (fun w h' => h' = h ∧ w = some (.inl 92)) := me_abs1 (m := 27) (M := (1, 1, sb_27)) (as := [.inr (.inr 13)]) xo_ln13 rfl rfl (by decide) hS ⟨rfl, trivial⟩
theorem me_ch13 {k : Nat} (hS : ab_Sh sx_sk h) (k1 : k < 92) : me_E (d + 5) 29 0 [some (.inr (.inr 13)), some (.inl (k : Int))] [] h (fun w h' => h' = h ∧ w = some (.inl (sw_s13.getD k 0))) := me_abs1 (m := 29) (M := (2, 5, sb_29)) (as := [.inr (.inr 13), .inl (k : Int)]) (ab_good_ok (List.all_eq_true.mp xo_ch13 k (List.mem_range.mpr k1)) (fun _ h => absurd h List.not_mem_nil)) rfl (show sc_P 29 = some (2, 5, sb_29) from rfl) (by decide) hS ⟨rfl, me_nv1 ⟨by omega, by omega⟩ (Int.le_refl _) (Int.le_refl _), trivial⟩
theorem aa13_loop (hS0 : ab_Sh sx_sk h0) : ∀ (N k : Nat) (h : sm_H), k + N = 92 → ab_Sh sx_sk h → ab_Fr tx_W h0 h → mi_f h 6657 = k → mi_a h 53 = apl (sw_s13.take k) 0 (mi_a h0 53) → me_E (d + 6) 99 2 [some (.inr (.inr 52)), some (.inr (.inr 13)), some (.inl (k : Int))] [] h (fun w h' => w = none ∧ ab_Sh sx_sk h' ∧ ab_Fr tx_W h0 h' ∧ mi_f h' 6657 = 92 ∧ mi_a h' 53 = apl sw_s13 0 (mi_a h0 53)) := by
  intro N
  induction N with
  | zero =>
    intro k h hk hS hF hn hc
    have ok : mi_in (k : Int) := ⟨by omega, by omega⟩
    refine mt_aa13B hS ok (fun h1 g1 g2 => ?_)
    have e0 := me_nil g2
    subst e0
    refine ⟨_, me_ln13 (d := d) hS, fun w h2 oww hq => ?_⟩
    obtain ⟨rfl, rfl⟩ := hq
    refine mt_aa13C hS ok ⟨by decide, by decide⟩ ok ?_ (fun q => by exfalso; omega)
    intro c1 h3 g1 g2
    have e0 := me_nil g2
    subst e0
    refine ⟨rfl, hS, hF, by omega, ?_⟩
    rw [hc, show k = sw_s13.length from by show k = 92; omega, List.take_length]
  | succ N ih =>
    intro k h hk hS hF hn hc
    have ok : mi_in (k : Int) := ⟨by omega, by omega⟩
    have klt : k < sw_s13.length := by show k < 92; omega
    have em : sw_s13.getD k 0 = sw_s13[k] := by rw [List.getD_eq_getElem?_getD, List.getElem?_eq_getElem klt]; rfl
    have al := sw_al13 _ (List.getElem_mem klt)
    have alb : 0 ≤ sw_s13[k] ∧ sw_s13[k] ≤ 65535 := by unfold tx_al at al; omega
    refine mt_aa13B hS ok (fun h1 g1 g2 => ?_)
    have e0 := me_nil g2
    subst e0
    refine ⟨_, me_ln13 (d := d) hS, fun w h2 oww hq => ?_⟩
    obtain ⟨rfl, rfl⟩ := hq
    refine mt_aa13C hS ok ⟨by decide, by decide⟩ ok (fun q => by exfalso; omega) ?_
    intro c1 h3 g1 g2
    have e0 := me_nil g2
    subst e0
    refine ⟨_, me_ch13 (d := d) (k := k) hS (by omega), fun w h4 oww hq => ?_⟩
    obtain ⟨rfl, rfl⟩ := hq
    rw [em]
    refine mt_aa13D hS ok ⟨by omega, by omega⟩ (fun h5 g1 g2 => ?_)
    have e0 := me_nil g2
    subst e0
    refine ⟨_, me_append (d := d + 5) hS alb.1 alb.2, fun w h6 oww hq => ?_⟩
    obtain ⟨⟨y, rfl, y01⟩, q1, q2, q3⟩ := hq
    refine mt_aa13E q1 ok ⟨by omega, by omega⟩ ⟨⟨by omega, by omega⟩, fun h7 g1 g2 => ?_⟩
    have e0 := me_nil g2
    subst e0
    rcases q3 with ⟨a1, a2, a3, a4⟩ | ⟨a1, -⟩
    · have ek : (k : Int) + 1 = ((k + 1 : Nat) : Int) := by omega
      rw [ek]
      refine ih (k + 1) h7 (by omega) q1 (hF.trans q2) (by rw [a3, hn]; omega) ?_
      rw [a4, hc, hn, List.take_succ_eq_append_getElem klt, apl_app, List.length_take, show 0 + min k sw_s13.length = k by omega]
      rfl
    · exact absurd ⟨al, by rw [hn]; omega⟩ a1
theorem me_aa13 (hS : ab_Sh sx_sk h) (hn : mi_f h 6657 = 0) : me_E (d + 6) 99 0 [some (.inr (.inr 52)), some (.inr (.inr 13)), none] [] h (fun w h' => w = none ∧ ab_Sh sx_sk h' ∧ ab_Fr tx_W h h' ∧ mi_f h' 6657 = 92 ∧ mi_a h' 53 = apl sw_s13 0 (mi_a h 53)) := by
  refine mt_aa13A hS (fun h1 g1 g2 => ?_)
  have e0 := me_nil g2
  subst e0
  exact aa13_loop hS 92 0 h1 (by decide) hS ab_Fr.refl hn rfl
end SW13
/-- a sample's characters -/
def sw_k (k : Int) : List Int := if k = 0 then sw_s11 else if k = 1 then sw_s12 else sw_s13
theorem me_samplec {d : Nat} {h : sm_H} {zk : Int} (hS : ab_Sh sx_sk h) (k0 : 0 ≤ zk) (k1 : zk ≤ 2) : me_E (d + 7) 98 0 [some (.inr (.inr 51)), some (.inl zk)] [] h (fun w h' => (∃ y, w = some (.inl y) ∧ mi_in y) ∧ ab_Sh sx_sk h' ∧ ab_Fr tx_W h h' ∧ mi_f h' 6657 = (sw_k zk).length ∧ mi_a h' 53 = apl (sw_k zk) 0 (mi_a h 53)) := by
  have ok : mi_in zk := ⟨by omega, by omega⟩
  have fin : ∀ (s : List Int) (h1 h2 : sm_H), s = sw_k zk → ab_Sh sx_sk h1 → ab_Fr [(6657, 6658)] h h1 → ab_Sh sx_sk h2 → ab_Fr tx_W h1 h2 → mi_f h2 6657 = s.length → mi_a h2 53 = apl s 0 (mi_a h1 53) → me_E (d + 7) 98 54 [some (.inr (.inr 51)), some (.inl zk)] [] h2 (fun w h' => (∃ y, w = some (.inl y) ∧ mi_in y) ∧ ab_Sh sx_sk h' ∧ ab_Fr tx_W h h' ∧ mi_f h' 6657 = (sw_k zk).length ∧ mi_a h' 53 = apl (sw_k zk) 0 (mi_a h 53)) := by
    intro s h1 h2 es s1 s2 s3 s4 s5 s6
    refine mt_smB s3 ok (fun h3 g1 g2 => ?_)
    have e0 := me_nil g2
    subst e0
    have b := me_fb (c := 6657) s3 rfl
    refine ⟨⟨_, rfl, by omega, by omega⟩, s3, (s2.wide (fun c hc => ab_swr_ok (by decide) hc)).trans s4, by rw [s5, es], ?_⟩
    rw [s6, es, show mi_a h1 53 = mi_a h 53 from funext fun i => me_a (k := 53) s2 hS rfl rfl]
  refine mt_smA hS ok ?_ ?_ ?_ ?_ ?_
  · intro c1; exfalso; omega
  · intro c1 c2 c3 c4 h1 s1 s2 s3
    refine ⟨_, me_aa13 (d := d) s1 s2, fun w h2 oww hq => ?_⟩
    obtain ⟨rfl, q1, q2, q3, q4⟩ := hq
    exact fin sw_s13 h1 h2 (by unfold sw_k; rw [if_neg c3, if_neg c4]) s1 s3 q1 q2 q3 q4
  · intro c1 c2 c3 c4 h1 s1 s2 s3
    refine ⟨_, me_aa12 (d := d) s1 s2, fun w h2 oww hq => ?_⟩
    obtain ⟨rfl, q1, q2, q3, q4⟩ := hq
    exact fin sw_s12 h1 h2 (by unfold sw_k; rw [if_neg c3, if_pos c4]) s1 s3 q1 q2 q3 q4
  · intro c1 c2 c3 h1 s1 s2 s3
    refine ⟨_, me_aa11 (d := d) s1 s2, fun w h2 oww hq => ?_⟩
    obtain ⟨rfl, q1, q2, q3, q4⟩ := hq
    exact fin sw_s11 h1 h2 (by unfold sw_k; rw [if_pos c3]) s1 s3 q1 q2 q3 q4
  · intro c1 c2; exfalso; omega
