/-! texts: what type, clear, sample do, on both sides -/
/-- characters are put at the end -/
def apl : List Int → Nat → (Nat → Int) → Nat → Int
  | [], _, c => c
  | x :: r, n, c => apl r (n + 1) (fun j => if j = n then x else c j)
theorem apl_app : ∀ (s t : List Int) (n : Nat) (c : Nat → Int), apl (s ++ t) n c = apl t (n + s.length) (apl s n c) := by
  intro s
  induction s with
  | nil => intro t n c; rfl
  | cons x r ih =>
    intro t n c
    show apl (r ++ t) (n + 1) _ = apl t (n + (r.length + 1)) _
    rw [ih, show n + 1 + r.length = n + (r.length + 1) by omega]
    rfl
def tx_al (z : Int) : Prop := z = 10 ∨ (32 ≤ z ∧ z ≤ 126)
theorem apl_ok : ∀ (s : List Int) (n : Nat) (c : Nat → Int), (∀ x ∈ s, tx_al x) → (∀ i : Nat, i < n → tx_al (c i)) → ∀ i : Nat, i < n + s.length → tx_al (apl s n c i) := by
  intro s
  induction s with
  | nil => intro n c _ hc i hi; exact hc i hi
  | cons x r ih =>
    intro n c hs hc i hi
    refine ih (n + 1) _ (fun y hy => hs y (List.mem_cons_of_mem _ hy)) (fun j hj => ?_) i (by rw [List.length_cons] at hi; omega)
    show tx_al (if j = n then x else c j)
    split
    · exact hs x List.mem_cons_self
    · exact hc j (by omega)
/-- one character: the text before and behind -/
def ef_c (z n n' : Int) (c c' : Nat → Int) : Prop := (tx_al z ∧ n < 240 ∧ n' = n + 1 ∧ c' = fun j => if j = n.toNat then z else c j) ∨ (¬ (tx_al z ∧ n < 240) ∧ n' = n ∧ c' = c)
section TXC
variable {d : Nat} {h : sm_H}
theorem me_castore {m pc : Nat} {M : sm_M} {ls : mi_L} {v i : Int} {Q : Option mi_V → sm_H → Prop} (hM : sc_P m = some M) (hq : M.2.2[pc]? = some (some (.castore, 1, []))) (hS : ab_Sh sx_sk h) (v0 : 0 ≤ v) (v1 : v ≤ 65535) (i0 : 0 ≤ i) (i1 : i < 240) (K : ∀ h1, ab_Sh sx_sk h1 → (∀ j, mi_a h1 53 j = if j = i.toNat then v else mi_a h 53 j) → ab_Fr [(6784, 6785)] h h1 → me_E d m (pc + 1) ls [] h1 Q) : me_E d m pc ls [.inl v, .inl i, .inr (.inr 53)] h Q := by
  have ov : mi_in v := ⟨by omega, by omega⟩
  have oi : mi_in i := ⟨by omega, by omega⟩
  have tv := mi_ti ov
  have ti := mi_ti oi
  have ev : (sm_chr (Int32.ofInt v)).toInt = v := by
    rw [ab_chr_eq, tv]
    omega
  have en : (Int32.ofInt i).toNatClampNeg = i.toNat := by
    unfold Int32.toNatClampNeg
    rw [ti]
  have hs : mx_step sx_sk (.castore, 1, []) pc (mi_cl ls) [.int (Int32.ofInt v), .int (Int32.ofInt i), .ref 53] h 0 = some (pc + 1, mi_cl ls, [], mx_pa h 53 (Int32.ofInt i).toNatClampNeg (sm_chr (Int32.ofInt v)), [0 ≤ (Int32.ofInt i).toInt ∧ (Int32.ofInt i).toInt < ((240 : Nat) : Int), 0 ≤ (sm_chr (Int32.ofInt v)).toInt ∧ (sm_chr (Int32.ofInt v)).toInt ≤ 65535]) := rfl
  obtain ⟨e1, e2⟩ := mx_step_ok hs hS (fun p hp => by
    simp only [List.mem_cons, List.not_mem_nil, or_false] at hp
    rcases hp with rfl | rfl
    · rw [ti]; omega
    · rw [ev]; omega)
  obtain ⟨f, hf, -⟩ := mx_arr (a := 53) (t := 2) (n := 240) (lo := 0) (hi := 65535) (ex := []) hS rfl (by decide)
  have ep : mx_pa h 53 (Int32.ofInt i).toNatClampNeg (sm_chr (Int32.ofInt v)) = h.set 53 (.inl (2, 240, .inl (upd f (Int32.ofInt i).toNatClampNeg (sm_chr (Int32.ofInt v))))) := by
    unfold mx_pa
    rw [hf]
  refine ab_Ends.step hM hq e1 (K _ e2 (fun j => ?_) ?_)
  · unfold mi_a
    rw [mx_a_pa (mx_Sh_Sp hS) rfl, en]
    by_cases c : j = i.toNat
    · rw [if_pos c, if_pos ⟨rfl, c⟩, ev]
    · rw [if_neg c, if_neg (fun q => c q.2)]
  · show ab_Fr _ h (mx_pa h 53 (Int32.ofInt i).toNatClampNeg (sm_chr (Int32.ofInt v)))
    rw [ep]
    exact ab_Fr_arr hf rfl (by decide)
def tx_W : List (Nat × Nat) := [(6657, 6658), (6784, 6785)]
def ap_Q (z : Int) (h : sm_H) (w : Option mi_V) (h' : sm_H) : Prop := (∃ y, w = some (.inl y) ∧ (y = 0 ∨ y = 1)) ∧ ab_Sh sx_sk h' ∧ ab_Fr tx_W h h' ∧ ef_c z (mi_f h 6657) (mi_f h' 6657) (mi_a h 53) (mi_a h' 53)
theorem me_append {zc : Int} (hS : ab_Sh sx_sk h) (z0 : 0 ≤ zc) (z1 : zc ≤ 65535) : me_E d 91 0 [some (.inr (.inr 52)), some (.inl zc), none] [] h (ap_Q zc h) := by
  have oc : mi_in zc := ⟨by omega, by omega⟩
  have no : ∀ h1, ab_Sh sx_sk h1 → ab_Fr [] h h1 → ¬ (tx_al zc ∧ mi_f h 6657 < 240) → ap_Q zc h (some (.inl 0)) h1 := fun h1 g1 g2 n => by
    have e0 := me_nil g2
    subst e0
    exact ⟨⟨0, rfl, Or.inl rfl⟩, g1, ab_Fr.refl, Or.inr ⟨n, rfl, rfl⟩⟩
  have t24 : ∀ zl, (zl = 0 ∨ zl = 1) → (zl = 1 ↔ tx_al zc) → me_E d 91 24 [some (.inr (.inr 52)), some (.inl zc), some (.inl zl)] [] h (ap_Q zc h) := by
    intro zl l01 hl
    refine mt_apB hS oc ⟨by omega, by omega⟩ ?_ ?_ ?_ ?_
    · intro c1 h1 g1 g2
      exact no h1 g1 g2 (fun q => by have := hl.mpr q.1; omega)
    · intro b c1 c2; exfalso; omega
    · intro b c1 c2 c3 h1 g1 g2
      have e0 := me_nil g2
      subst e0
      refine me_castore (m := 91) (M := (3, 4, sb_91)) rfl rfl hS z0 z1 c2 c3 (fun h2 s1 s2 s3 => ?_)
      have e57 : mi_f h2 6657 = mi_f h1 6657 := me_f (c := 6657) s3 hS rfl rfl
      refine mt_apC s1 oc ⟨by omega, by omega⟩ (fun b => ⟨by omega, fun h3 t1 t2 t3 => ⟨⟨1, rfl, Or.inr rfl⟩, t1, (s3.wide (fun c hc => ab_swr_ok (by decide) hc)).trans (t3.wide (fun c hc => ab_swr_ok (by decide) hc)), Or.inl ⟨hl.mp (by omega), c3, by rw [t2, e57], funext fun j => ?_⟩⟩⟩)
      rw [me_a (k := 53) t3 s1 rfl rfl]
      exact s2 j
    · intro b c1 c2 c3 h1 g1 g2
      exact no h1 g1 g2 (fun q => by have := q.2; omega)
  refine mt_apA hS oc ?_ ?_ ?_ ?_ ?_
  · intro c1 c2 h1 g1 g2
    have e0 := me_nil g2
    subst e0
    exact t24 0 (Or.inl rfl) ⟨fun q => absurd q (by decide), fun q => by unfold tx_al at q; omega⟩
  · intro c1 c2 h1 g1 g2
    have e0 := me_nil g2
    subst e0
    exact t24 1 (Or.inr rfl) ⟨fun _ => Or.inl c2, fun _ => rfl⟩
  · intro c1 c2 h1 g1 g2
    have e0 := me_nil g2
    subst e0
    exact t24 1 (Or.inr rfl) ⟨fun _ => Or.inr ⟨c1, c2⟩, fun _ => rfl⟩
  · intro c1 c2 c3 h1 g1 g2
    have e0 := me_nil g2
    subst e0
    exact t24 0 (Or.inl rfl) ⟨fun q => absurd q (by decide), fun q => by unfold tx_al at q; omega⟩
  · intro c1 c2 c3; exfalso; omega
set_option maxRecDepth 20000 in
theorem xo_tx0 : ab_Ok sc_P sx_sk (96, [(3, 51, 0, []), (1, 0, 0, [])], [], [((3, 52, 0, []), [])], [], 0) := ab_good_ok (env := []) (heads := []) (fuel := 20) (by decide +kernel) (fun _ h => absurd h List.not_mem_nil)
set_option maxRecDepth 20000 in
theorem xo_tx1 : ab_Ok sc_P sx_sk (96, [(3, 51, 0, []), (1, 1, 1, [])], [], [((3, 54, 0, []), [])], [], 0) := ab_good_ok (env := []) (heads := []) (fuel := 20) (by decide +kernel) (fun _ h => absurd h List.not_mem_nil)
theorem me_resR {k : Nat} {a : ab_V} {w : Option mi_V} (h : mi_res k a w) (hk : k ≠ 0) (ha : a.1 = 3) : w = some (.inr (.inr a.2.1.toNat)) := by
  unfold mi_res at h
  rw [if_neg hk] at h
  rcases h with ⟨e, -⟩ | ⟨e, -⟩ | ⟨-, e⟩
  · rw [ha] at e; exact absurd e (by decide)
  · rw [ha] at e; exact absurd e (by decide)
  · exact e
theorem me_text0 (hS : ab_Sh sx_sk h) : me_E d 96 0 [some (.inr (.inr 51)), some (.inl 0)] [] h (fun w h' => h' = h ∧ w = some (.inr (.inr 52))) := by
  have A := me_abs (as := [.inr (.inr 51), .inl 0]) xo_tx0 rfl hS ⟨rfl, me_nv1 fm_in0 (by decide) (by decide), trivial⟩ (fun e he => by cases he) (by decide)
  refine (me_E.deep (d' := d) A (Nat.zero_le _)).imp (fun w h' hq => ?_)
  obtain ⟨q1, q2, p, hp, q3, -⟩ := hq
  rcases List.mem_cons.mp hp with rfl | hp
  · exact ⟨me_nil q2, me_resR q3 (by decide) rfl⟩
  · cases hp
theorem me_text1 (hS : ab_Sh sx_sk h) : me_E d 96 0 [some (.inr (.inr 51)), some (.inl 1)] [] h (fun w h' => h' = h ∧ w = some (.inr (.inr 54))) := by
  have A := me_abs (as := [.inr (.inr 51), .inl 1]) xo_tx1 rfl hS ⟨rfl, me_nv1 fm_in1 (by decide) (by decide), trivial⟩ (fun e he => by cases he) (by decide)
  refine (me_E.deep (d' := d) A (Nat.zero_le _)).imp (fun w h' hq => ?_)
  obtain ⟨q1, q2, p, hp, q3, -⟩ := hq
  rcases List.mem_cons.mp hp with rfl | hp
  · exact ⟨me_nil q2, me_resR q3 (by decide) rfl⟩
  · cases hp
end TXC
/-! the samples -/
def sw_s11 : List Int := [69, 32, 61, 32, 84, 32, 40, 32, 40, 32, 39, 43, 32, 124, 32, 39, 45, 32, 41, 32, 84, 32, 41, 42, 32, 59, 10, 84, 32, 61, 32, 70, 32, 40, 32, 40, 32, 39, 42, 32, 124, 32, 39, 47, 32, 41, 32, 70, 32, 41, 42, 32, 59, 10, 70, 32, 61, 32, 110, 117, 109, 98, 101, 114, 32, 124, 32, 110, 97, 109, 101, 32, 124, 32, 39, 40, 32, 69, 32, 39, 41, 32, 59, 10]
set_option maxRecDepth 20000 in
theorem sw_al11 : ∀ x ∈ sw_s11, tx_al x := by unfold tx_al; decide +kernel
set_option maxRecDepth 20000 in
theorem xo_ln11 : ab_Ok sc_P sx_sk (27, [(3, 11, 0, [])], [], [((1, 84, 84, []), [])], [], 5) := ab_good_ok (env := []) (heads := []) (fuel := 40) (by decide +kernel) (fun _ h => absurd h List.not_mem_nil)
set_option maxRecDepth 20000 in
theorem xo_ch11 : (List.range 84).all (fun k => ab_good sc_P sx_sk [] [] [] 60 (29, [(3, 11, 0, []), (1, (k : Int), (k : Int), [])], [], [((1, sw_s11.getD k 0, sw_s11.getD k 0, []), [])], [], 5)) = true := by decide +kernel
section SW11
variable {d : Nat} {h h0 : sm_H}
theorem me_ln11 (hS : ab_Sh sx_sk h) : me_E (d + 5) 27 0 [some (.inr (.inr 11))] [] h (fun w h' => h' = h ∧ w = some (.inl 84)) := me_abs1 (m := 27) (M := (1, 1, sb_27)) (as := [.inr (.inr 11)]) xo_ln11 rfl rfl (by decide) hS ⟨rfl, trivial⟩
theorem me_ch11 {k : Nat} (hS : ab_Sh sx_sk h) (k1 : k < 84) : me_E (d + 5) 29 0 [some (.inr (.inr 11)), some (.inl (k : Int))] [] h (fun w h' => h' = h ∧ w = some (.inl (sw_s11.getD k 0))) := me_abs1 (m := 29) (M := (2, 5, sb_29)) (as := [.inr (.inr 11), .inl (k : Int)]) (ab_good_ok (List.all_eq_true.mp xo_ch11 k (List.mem_range.mpr k1)) (fun _ h => absurd h List.not_mem_nil)) rfl (show sc_P 29 = some (2, 5, sb_29) from rfl) (by decide) hS ⟨rfl, me_nv1 ⟨by omega, by omega⟩ (Int.le_refl _) (Int.le_refl _), trivial⟩
theorem aa11_loop (hS0 : ab_Sh sx_sk h0) : ∀ (N k : Nat) (h : sm_H), k + N = 84 → ab_Sh sx_sk h → ab_Fr tx_W h0 h → mi_f h 6657 = k → mi_a h 53 = apl (sw_s11.take k) 0 (mi_a h0 53) → me_E (d + 6) 99 2 [some (.inr (.inr 52)), some (.inr (.inr 11)), some (.inl (k : Int))] [] h (fun w h' => w = none ∧ ab_Sh sx_sk h' ∧ ab_Fr tx_W h0 h' ∧ mi_f h' 6657 = 84 ∧ mi_a h' 53 = apl sw_s11 0 (mi_a h0 53)) := by
  intro N
  induction N with
  | zero =>
    intro k h hk hS hF hn hc
    have ok : mi_in (k : Int) := ⟨by omega, by omega⟩
    refine mt_aa11B hS ok (fun h1 g1 g2 => ?_)
    have e0 := me_nil g2
    subst e0
    refine ⟨_, me_ln11 (d := d) hS, fun w h2 oww hq => ?_⟩
    obtain ⟨rfl, rfl⟩ := hq
    refine mt_aa11C hS ok ⟨by decide, by decide⟩ ok ?_ (fun q => by exfalso; omega)
    intro c1 h3 g1 g2
    have e0 := me_nil g2
    subst e0
    refine ⟨rfl, hS, hF, by omega, ?_⟩
    rw [hc, show k = sw_s11.length from by show k = 84; omega, List.take_length]
  | succ N ih =>
    intro k h hk hS hF hn hc
    have ok : mi_in (k : Int) := ⟨by omega, by omega⟩
    have klt : k < sw_s11.length := by show k < 84; omega
    have em : sw_s11.getD k 0 = sw_s11[k] := by rw [List.getD_eq_getElem?_getD, List.getElem?_eq_getElem klt]; rfl
    have al := sw_al11 _ (List.getElem_mem klt)
    have alb : 0 ≤ sw_s11[k] ∧ sw_s11[k] ≤ 65535 := by unfold tx_al at al; omega
    refine mt_aa11B hS ok (fun h1 g1 g2 => ?_)
    have e0 := me_nil g2
    subst e0
    refine ⟨_, me_ln11 (d := d) hS, fun w h2 oww hq => ?_⟩
    obtain ⟨rfl, rfl⟩ := hq
    refine mt_aa11C hS ok ⟨by decide, by decide⟩ ok (fun q => by exfalso; omega) ?_
    intro c1 h3 g1 g2
    have e0 := me_nil g2
    subst e0
    refine ⟨_, me_ch11 (d := d) (k := k) hS (by omega), fun w h4 oww hq => ?_⟩
    obtain ⟨rfl, rfl⟩ := hq
    rw [em]
    refine mt_aa11D hS ok ⟨by omega, by omega⟩ (fun h5 g1 g2 => ?_)
    have e0 := me_nil g2
    subst e0
    refine ⟨_, me_append (d := d + 5) hS alb.1 alb.2, fun w h6 oww hq => ?_⟩
    obtain ⟨⟨y, rfl, y01⟩, q1, q2, q3⟩ := hq
    refine mt_aa11E q1 ok ⟨by omega, by omega⟩ ⟨⟨by omega, by omega⟩, fun h7 g1 g2 => ?_⟩
    have e0 := me_nil g2
    subst e0
    rcases q3 with ⟨a1, a2, a3, a4⟩ | ⟨a1, -⟩
    · have ek : (k : Int) + 1 = ((k + 1 : Nat) : Int) := by omega
      rw [ek]
      refine ih (k + 1) h7 (by omega) q1 (hF.trans q2) (by rw [a3, hn]; omega) ?_
      rw [a4, hc, hn, List.take_succ_eq_append_getElem klt, apl_app, List.length_take, show 0 + min k sw_s11.length = k by omega]
      rfl
    · exact absurd ⟨al, by rw [hn]; omega⟩ a1
theorem me_aa11 (hS : ab_Sh sx_sk h) (hn : mi_f h 6657 = 0) : me_E (d + 6) 99 0 [some (.inr (.inr 52)), some (.inr (.inr 11)), none] [] h (fun w h' => w = none ∧ ab_Sh sx_sk h' ∧ ab_Fr tx_W h h' ∧ mi_f h' 6657 = 84 ∧ mi_a h' 53 = apl sw_s11 0 (mi_a h 53)) := by
  refine mt_aa11A hS (fun h1 g1 g2 => ?_)
  have e0 := me_nil g2
  subst e0
  exact aa11_loop hS 84 0 h1 (by decide) hS ab_Fr.refl hn rfl
end SW11
def sw_s12 : List Int := [80, 32, 61, 32, 39, 123, 32, 100, 101, 101, 112, 101, 114, 32, 40, 32, 108, 105, 110, 101, 32, 83, 32, 41, 42, 32, 98, 97, 99, 107, 32, 108, 105, 110, 101, 32, 39, 125, 32, 59, 10, 83, 32, 61, 32, 34, 108, 101, 116, 34, 32, 110, 97, 109, 101, 32, 98, 108, 97, 110, 107, 32, 39, 61, 32, 98, 108, 97, 110, 107, 32, 86, 32, 39, 59, 32, 124, 32, 34, 100, 111, 34, 32, 80, 32, 124, 32, 34, 112, 117, 116, 34, 32, 86, 32, 39, 59, 32, 59, 10, 86, 32, 61, 32, 110, 97, 109, 101, 32, 124, 32, 110, 117, 109, 98, 101, 114, 32, 43, 32, 49, 32, 124, 32, 39, 45, 32, 86, 32, 59, 10]
set_option maxRecDepth 20000 in
theorem sw_al12 : ∀ x ∈ sw_s12, tx_al x := by unfold tx_al; decide +kernel
set_option maxRecDepth 20000 in
theorem xo_ln12 : ab_Ok sc_P sx_sk (27, [(3, 12, 0, [])], [], [((1, 131, 131, []), [])], [], 5) := ab_good_ok (env := []) (heads := []) (fuel := 40) (by decide +kernel) (fun _ h => absurd h List.not_mem_nil)
set_option maxRecDepth 20000 in
theorem xo_ch12 : (List.range 131).all (fun k => ab_good sc_P sx_sk [] [] [] 60 (29, [(3, 12, 0, []), (1, (k : Int), (k : Int), [])], [], [((1, sw_s12.getD k 0, sw_s12.getD k 0, []), [])], [], 5)) = true := by decide +kernel
section SW12
variable {d : Nat} {h h0 : sm_H}
theorem me_ln12 (hS : ab_Sh sx_sk h) : me_E (d + 5) 27 0 [some (.inr (.inr 12))] [] h (fun w h' => h' = h ∧ w = some (.inl 131)) := me_abs1 (m := 27) (M := (1, 1, sb_27)) (as := [.inr (.inr 12)]) xo_ln12 rfl rfl (by decide) hS ⟨rfl, trivial⟩
theorem me_ch12 {k : Nat} (hS : ab_Sh sx_sk h) (k1 : k < 131) : me_E (d + 5) 29 0 [some (.inr (.inr 12)), some (.inl (k : Int))] [] h (fun w h' => h' = h ∧ w = some (.inl (sw_s12.getD k 0))) := me_abs1 (m := 29) (M := (2, 5, sb_29)) (as := [.inr (.inr 12), .inl (k : Int)]) (ab_good_ok (List.all_eq_true.mp xo_ch12 k (List.mem_range.mpr k1)) (fun _ h => absurd h List.not_mem_nil)) rfl (show sc_P 29 = some (2, 5, sb_29) from rfl) (by decide) hS ⟨rfl, me_nv1 ⟨by omega, by omega⟩ (Int.le_refl _) (Int.le_refl _), trivial⟩
theorem aa12_loop (hS0 : ab_Sh sx_sk h0) : ∀ (N k : Nat) (h : sm_H), k + N = 131 → ab_Sh sx_sk h → ab_Fr tx_W h0 h → mi_f h 6657 = k → mi_a h 53 = apl (sw_s12.take k) 0 (mi_a h0 53) → me_E (d + 6) 99 2 [some (.inr (.inr 52)), some (.inr (.inr 12)), some (.inl (k : Int))] [] h (fun w h' => w = none ∧ ab_Sh sx_sk h' ∧ ab_Fr tx_W h0 h' ∧ mi_f h' 6657 = 131 ∧ mi_a h' 53 = apl sw_s12 0 (mi_a h0 53)) := by
  intro N
  induction N with
  | zero =>
    intro k h hk hS hF hn hc
    have ok : mi_in (k : Int) := ⟨by omega, by omega⟩
    refine mt_aa12B hS ok (fun h1 g1 g2 => ?_)
    have e0 := me_nil g2
    subst e0
    refine ⟨_, me_ln12 (d := d) hS, fun w h2 oww hq => ?_⟩
    obtain ⟨rfl, rfl⟩ := hq
    refine mt_aa12C hS ok ⟨by decide, by decide⟩ ok ?_ (fun q => by exfalso; omega)
    intro c1 h3 g1 g2
    have e0 := me_nil g2
    subst e0
    refine ⟨rfl, hS, hF, by omega, ?_⟩
    rw [hc, show k = sw_s12.length from by show k = 131; omega, List.take_length]
  | succ N ih =>
    intro k h hk hS hF hn hc
    have ok : mi_in (k : Int) := ⟨by omega, by omega⟩
    have klt : k < sw_s12.length := by show k < 131; omega
    have em : sw_s12.getD k 0 = sw_s12[k] := by rw [List.getD_eq_getElem?_getD, List.getElem?_eq_getElem klt]; rfl
    have al := sw_al12 _ (List.getElem_mem klt)
    have alb : 0 ≤ sw_s12[k] ∧ sw_s12[k] ≤ 65535 := by unfold tx_al at al; omega
    refine mt_aa12B hS ok (fun h1 g1 g2 => ?_)
    have e0 := me_nil g2
    subst e0
    refine ⟨_, me_ln12 (d := d) hS, fun w h2 oww hq => ?_⟩
    obtain ⟨rfl, rfl⟩ := hq
    refine mt_aa12C hS ok ⟨by decide, by decide⟩ ok (fun q => by exfalso; omega) ?_
    intro c1 h3 g1 g2
    have e0 := me_nil g2
    subst e0
    refine ⟨_, me_ch12 (d := d) (k := k) hS (by omega), fun w h4 oww hq => ?_⟩
    obtain ⟨rfl, rfl⟩ := hq
    rw [em]
    refine mt_aa12D hS ok ⟨by omega, by omega⟩ (fun h5 g1 g2 => ?_)
    have e0 := me_nil g2
    subst e0
    refine ⟨_, me_append (d := d + 5) hS alb.1 alb.2, fun w h6 oww hq => ?_⟩
    obtain ⟨⟨y, rfl, y01⟩, q1, q2, q3⟩ := hq
    refine mt_aa12E q1 ok ⟨by omega, by omega⟩ ⟨⟨by omega, by omega⟩, fun h7 g1 g2 => ?_⟩
    have e0 := me_nil g2
    subst e0
    rcases q3 with ⟨a1, a2, a3, a4⟩ | ⟨a1, -⟩
    · have ek : (k : Int) + 1 = ((k + 1 : Nat) : Int) := by omega
      rw [ek]
      refine ih (k + 1) h7 (by omega) q1 (hF.trans q2) (by rw [a3, hn]; omega) ?_
      rw [a4, hc, hn, List.take_succ_eq_append_getElem klt, apl_app, List.length_take, show 0 + min k sw_s12.length = k by omega]
      rfl
    · exact absurd ⟨al, by rw [hn]; omega⟩ a1
theorem me_aa12 (hS : ab_Sh sx_sk h) (hn : mi_f h 6657 = 0) : me_E (d + 6) 99 0 [some (.inr (.inr 52)), some (.inr (.inr 12)), none] [] h (fun w h' => w = none ∧ ab_Sh sx_sk h' ∧ ab_Fr tx_W h h' ∧ mi_f h' 6657 = 131 ∧ mi_a h' 53 = apl sw_s12 0 (mi_a h 53)) := by
  refine mt_aa12A hS (fun h1 g1 g2 => ?_)
  have e0 := me_nil g2
  subst e0
  exact aa12_loop hS 131 0 h1 (by decide) hS ab_Fr.refl hn rfl
end SW12
def sw_s13 : List Int := [68, 32, 61, 32, 39, 91, 32, 40, 32, 82, 32, 40, 32, 39, 44, 32, 98, 108, 97, 110, 107, 32, 82, 32, 41, 42, 32, 41, 63, 32, 39, 93, 32, 59, 10, 82, 32, 61, 32, 110, 97, 109, 101, 32, 39, 58, 32, 40, 32, 110, 117, 109, 98, 101, 114, 32, 126, 32, 85, 32, 41, 32, 59, 10, 85, 32, 61, 32, 39, 35, 32, 110, 97, 109, 101, 63, 32, 124, 32, 39, 36, 32, 124, 32, 101, 109, 112, 116, 121, 32, 59, 10]
set_option maxRecDepth 20000 in
theorem sw_al13 : ∀ x ∈ sw_s13, tx_al x := by unfold tx_al; decide +kernel
set_option maxRecDepth 20000 in
theorem xo_ln13 : ab_Ok sc_P sx_sk (27, [(3, 13, 0, [])], [], [((1, 92, 92, []), [])], [], 5) := ab_good_ok (env := []) (heads := []) (fuel := 40) (by decide +kernel) (fun _ h => absurd h List.not_mem_nil)
set_option maxRecDepth 20000 in
theorem xo_ch13 : (List.range 92).all (fun k => ab_good sc_P sx_sk [] [] [] 60 (29, [(3, 13, 0, []), (1, (k : Int), (k : Int), [])], [], [((1, sw_s13.getD k 0, sw_s13.getD k 0, []), [])], [], 5)) = true := by decide +kernel
section SW13
variable {d : Nat} {h h0 : sm_H}
theorem me_ln13 (hS : ab_Sh sx_sk h) : me_E (d + 5) 27 0 [some (.inr (.inr 13))] [] h (fun w h' => h' = h ∧ w = some (.inl 92)) := me_abs1 (m := 27) (M := (1, 1, sb_27)) (as := [.inr (.inr 13)]) xo_ln13 rfl rfl (by decide) hS ⟨rfl, trivial⟩
theorem me_ch13 {k : Nat} (hS : ab_Sh sx_sk h) (k1 : k < 92) : me_E (d + 5) 29 0 [some (.inr (.inr 13)), some (.inl (k : Int))] [] h (fun w h' => h' = h ∧ w = some (.inl (sw_s13.getD k 0))) := me_abs1 (m := 29) (M := (2, 5, sb_29)) (as := [.inr (.inr 13), .inl (k : Int)]) (ab_good_ok (List.all_eq_true.mp xo_ch13 k (List.mem_range.mpr k1)) (fun _ h => absurd h List.not_mem_nil)) rfl (show sc_P 29 = some (2, 5, sb_29) from rfl) (by decide) hS ⟨rfl, me_nv1 ⟨by omega, by omega⟩ (Int.le_refl _) (Int.le_refl _), trivial⟩
theorem aa13_loop (hS0 : ab_Sh sx_sk h0) : ∀ (N k : Nat) (h : sm_H), k + N = 92 → ab_Sh sx_sk h → ab_Fr tx_W h0 h → mi_f h 6657 = k → mi_a h 53 = apl (sw_s13.take k) 0 (mi_a h0 53) → me_E (d + 6) 99 2 [some (.inr (.inr 52)), some (.inr (.inr 13)), some (.inl (k : Int))] [] h (fun w h' => w = none ∧ ab_Sh sx_sk h' ∧ ab_Fr tx_W h0 h' ∧ mi_f h' 6657 = 92 ∧ mi_a h' 53 = apl sw_s13 0 (mi_a h0 53)) := by
  intro N
  induction N with
  | zero =>
    intro k h hk hS hF hn hc
    have ok : mi_in (k : Int) := ⟨by omega, by omega⟩
    refine mt_aa13B hS ok (fun h1 g1 g2 => ?_)
    have e0 := me_nil g2
    subst e0
    refine ⟨_, me_ln13 (d := d) hS, fun w h2 oww hq => ?_⟩
    obtain ⟨rfl, rfl⟩ := hq
    refine mt_aa13C hS ok ⟨by decide, by decide⟩ ok ?_ (fun q => by exfalso; omega)
    intro c1 h3 g1 g2
    have e0 := me_nil g2
    subst e0
    refine ⟨rfl, hS, hF, by omega, ?_⟩
    rw [hc, show k = sw_s13.length from by show k = 92; omega, List.take_length]
  | succ N ih =>
    intro k h hk hS hF hn hc
    have ok : mi_in (k : Int) := ⟨by omega, by omega⟩
    have klt : k < sw_s13.length := by show k < 92; omega
    have em : sw_s13.getD k 0 = sw_s13[k] := by rw [List.getD_eq_getElem?_getD, List.getElem?_eq_getElem klt]; rfl
    have al := sw_al13 _ (List.getElem_mem klt)
    have alb : 0 ≤ sw_s13[k] ∧ sw_s13[k] ≤ 65535 := by unfold tx_al at al; omega
    refine mt_aa13B hS ok (fun h1 g1 g2 => ?_)
    have e0 := me_nil g2
    subst e0
    refine ⟨_, me_ln13 (d := d) hS, fun w h2 oww hq => ?_⟩
    obtain ⟨rfl, rfl⟩ := hq
    refine mt_aa13C hS ok ⟨by decide, by decide⟩ ok (fun q => by exfalso; omega) ?_
    intro c1 h3 g1 g2
    have e0 := me_nil g2
    subst e0
    refine ⟨_, me_ch13 (d := d) (k := k) hS (by omega), fun w h4 oww hq => ?_⟩
    obtain ⟨rfl, rfl⟩ := hq
    rw [em]
    refine mt_aa13D hS ok ⟨by omega, by omega⟩ (fun h5 g1 g2 => ?_)
    have e0 := me_nil g2
    subst e0
    refine ⟨_, me_append (d := d + 5) hS alb.1 alb.2, fun w h6 oww hq => ?_⟩
    obtain ⟨⟨y, rfl, y01⟩, q1, q2, q3⟩ := hq
    refine mt_aa13E q1 ok ⟨by omega, by omega⟩ ⟨⟨by omega, by omega⟩, fun h7 g1 g2 => ?_⟩
    have e0 := me_nil g2
    subst e0
    rcases q3 with ⟨a1, a2, a3, a4⟩ | ⟨a1, -⟩
    · have ek : (k : Int) + 1 = ((k + 1 : Nat) : Int) := by omega
      rw [ek]
      refine ih (k + 1) h7 (by omega) q1 (hF.trans q2) (by rw [a3, hn]; omega) ?_
      rw [a4, hc, hn, List.take_succ_eq_append_getElem klt, apl_app, List.length_take, show 0 + min k sw_s13.length = k by omega]
      rfl
    · exact absurd ⟨al, by rw [hn]; omega⟩ a1
theorem me_aa13 (hS : ab_Sh sx_sk h) (hn : mi_f h 6657 = 0) : me_E (d + 6) 99 0 [some (.inr (.inr 52)), some (.inr (.inr 13)), none] [] h (fun w h' => w = none ∧ ab_Sh sx_sk h' ∧ ab_Fr tx_W h h' ∧ mi_f h' 6657 = 92 ∧ mi_a h' 53 = apl sw_s13 0 (mi_a h 53)) := by
  refine mt_aa13A hS (fun h1 g1 g2 => ?_)
  have e0 := me_nil g2
  subst e0
  exact aa13_loop hS 92 0 h1 (by decide) hS ab_Fr.refl hn rfl
end SW13
/-- a sample's characters -/
def sw_k (k : Int) : List Int := if k = 0 then sw_s11 else if k = 1 then sw_s12 else sw_s13
theorem me_samplec {d : Nat} {h : sm_H} {zk : Int} (hS : ab_Sh sx_sk h) (k0 : 0 ≤ zk) (k1 : zk ≤ 2) : me_E (d + 7) 98 0 [some (.inr (.inr 51)), some (.inl zk)] [] h (fun w h' => (∃ y, w = some (.inl y) ∧ mi_in y) ∧ ab_Sh sx_sk h' ∧ ab_Fr tx_W h h' ∧ mi_f h' 6657 = (sw_k zk).length ∧ mi_a h' 53 = apl (sw_k zk) 0 (mi_a h 53)) := by
  have ok : mi_in zk := ⟨by omega, by omega⟩
  have fin : ∀ (s : List Int) (h1 h2 : sm_H), s = sw_k zk → ab_Sh sx_sk h1 → ab_Fr [(6657, 6658)] h h1 → ab_Sh sx_sk h2 → ab_Fr tx_W h1 h2 → mi_f h2 6657 = s.length → mi_a h2 53 = apl s 0 (mi_a h1 53) → me_E (d + 7) 98 54 [some (.inr (.inr 51)), some (.inl zk)] [] h2 (fun w h' => (∃ y, w = some (.inl y) ∧ mi_in y) ∧ ab_Sh sx_sk h' ∧ ab_Fr tx_W h h' ∧ mi_f h' 6657 = (sw_k zk).length ∧ mi_a h' 53 = apl (sw_k zk) 0 (mi_a h 53)) := by
    intro s h1 h2 es s1 s2 s3 s4 s5 s6
    refine mt_smB s3 ok (fun h3 g1 g2 => ?_)
    have e0 := me_nil g2
    subst e0
    have b := me_fb (c := 6657) s3 rfl
    refine ⟨⟨_, rfl, by omega, by omega⟩, s3, (s2.wide (fun c hc => ab_swr_ok (by decide) hc)).trans s4, by rw [s5, es], ?_⟩
    rw [s6, es, show mi_a h1 53 = mi_a h 53 from funext fun i => me_a (k := 53) s2 hS rfl rfl]
  refine mt_smA hS ok ?_ ?_ ?_ ?_ ?_
  · intro c1; exfalso; omega
  · intro c1 c2 c3 c4 h1 s1 s2 s3
    refine ⟨_, me_aa13 (d := d) s1 s2, fun w h2 oww hq => ?_⟩
    obtain ⟨rfl, q1, q2, q3, q4⟩ := hq
    exact fin sw_s13 h1 h2 (by unfold sw_k; rw [if_neg c3, if_neg c4]) s1 s3 q1 q2 q3 q4
  · intro c1 c2 c3 c4 h1 s1 s2 s3
    refine ⟨_, me_aa12 (d := d) s1 s2, fun w h2 oww hq => ?_⟩
    obtain ⟨rfl, q1, q2, q3, q4⟩ := hq
    exact fin sw_s12 h1 h2 (by unfold sw_k; rw [if_neg c3, if_pos c4]) s1 s3 q1 q2 q3 q4
  · intro c1 c2 c3 h1 s1 s2 s3
    refine ⟨_, me_aa11 (d := d) s1 s2, fun w h2 oww hq => ?_⟩
    obtain ⟨rfl, q1, q2, q3, q4⟩ := hq
    exact fin sw_s11 h1 h2 (by unfold sw_k; rw [if_pos c3]) s1 s3 q1 q2 q3 q4
  · intro c1 c2; exfalso; omega
/-! texts: the reference's type, clear, sample, exactly -/
section TXR
variable {d : Nat} {h : sm_H}
def rt_W : List (Nat × Nat) := [(13952, 13954), (14080, 14081)]
def rt_V : List (Nat × Nat) := [(13952, 13953), (13954, 13955), (14208, 14209)]
/-- a word's bytes -/
def sb_y (w : Int64) (k : Int) : Int := ((w >>> ((Int32.ofInt ((8 : Int) * k)).toInt64 &&& 63)) &&& (Int64.ofNat 255)).toInt32.toInt
def say_l (w : Int64) : Nat → Int → List Int
  | 0, _ => []
  | m + 1, k => if 0 < sb_y w k then sb_y w k :: say_l w m (k + 1) else say_l w m (k + 1)
theorem say_c {w : Int64} {m : Nat} {k : Int} : say_l w (m + 1) k = if 0 < sb_y w k then sb_y w k :: say_l w m (k + 1) else say_l w m (k + 1) := rfl
def syy_W : List (Nat × Nat) := [(13953, 13954), (14080, 14081)]
theorem sy_loop {zw : Int64} (hb : ∀ j : Nat, j < 8 → sb_y zw j ≤ 255) : ∀ (m k : Nat) (q4 : Option mi_V) (h : sm_H), k + m = 8 → (∀ v, q4 = some v → mi_ok v) → ab_Sh sx_sk h → mi_f h 13953 + (say_l zw m k).length ≤ 240 → me_E d 174 2 [some (.inr (.inr 109)), some (.inr (.inl zw)), none, some (.inl (k : Int)), q4] [] h (fun w h' => w = none ∧ ab_Sh sx_sk h' ∧ ab_Fr syy_W h h' ∧ mi_f h' 13953 = mi_f h 13953 + (say_l zw m k).length ∧ mi_a h' 110 = apl (say_l zw m k) (mi_f h 13953).toNat (mi_a h 110)) := by
  intro m
  induction m with
  | zero =>
    intro k q4 h hk o4 hS hl
    refine mt_syB hS ⟨by omega, by omega⟩ o4 ?_ (fun q => by exfalso; omega) (fun _ q => by exfalso; omega)
    intro c1 h1 g1 g2
    have e0 := me_nil g2
    subst e0
    refine ⟨rfl, hS, ab_Fr.refl, ?_, rfl⟩
    show _ = _ + ((0 : Nat) : Int)
    omega
  | succ m ih =>
    intro k q4 h hk o4 hS hl
    have ok : mi_in (k : Int) := ⟨by omega, by omega⟩
    have hbk := hb k (by omega)
    have ek : (k : Int) + 1 = ((k + 1 : Nat) : Int) := by omega
    have b53 := me_fb (c := 13953) hS rfl
    refine mt_syB hS ok o4 (fun q => by exfalso; omega) ?_ ?_
    · intro c1 c2
      have c2 : sb_y zw k ≤ 0 := c2
      have es : say_l zw (m + 1) k = say_l zw m ((k : Int) + 1) := by rw [say_c, if_neg (by omega)]
      rw [es, ek] at hl ⊢
      refine ⟨by omega, fun h1 g1 g2 => ?_⟩
      have e0 := me_nil g2
      subst e0
      exact ih (k + 1) _ h1 (by omega) (me_oi (mi_inT _)) hS hl
    · intro b c1 c2
      have c2' : 0 < sb_y zw k := c2
      have es : say_l zw (m + 1) k = sb_y zw k :: say_l zw m ((k : Int) + 1) := by rw [say_c, if_pos c2']
      rw [es, ek, List.length_cons] at hl
      rw [es, ek]
      refine ⟨⟨by omega, by omega, by omega, by omega, ⟨by show 0 ≤ sb_y zw k; omega, hbk⟩, by omega⟩, fun h1 g1 g2 g3 g4 => ?_⟩
      refine (ih (k + 1) _ h1 (by omega) (me_oi (mi_inT _)) g1 (by rw [g2]; omega)).imp (fun w h' hq => ?_)
      obtain ⟨r1, r2, r3, r4, r5⟩ := hq
      refine ⟨r1, r2, g4.trans r3, by rw [r4, g2, List.length_cons]; omega, ?_⟩
      rw [r5, g2, show (mi_f h 13953 + 1).toNat = (mi_f h 13953).toNat + 1 by omega]
      show _ = apl (say_l zw m ((k + 1 : Nat) : Int)) ((mi_f h 13953).toNat + 1) (fun j => if j = (mi_f h 13953).toNat then sb_y zw k else mi_a h 110 j)
      rw [show mi_a h1 110 = (fun j => if j = (mi_f h 13953).toNat then sb_y zw k else mi_a h 110 j) from funext g3]
theorem me_say {zw : Int64} (hb : ∀ j : Nat, j < 8 → sb_y zw j ≤ 255) (hS : ab_Sh sx_sk h) (hl : mi_f h 13953 + (say_l zw 8 0).length ≤ 240) : me_E d 174 0 [some (.inr (.inr 109)), some (.inr (.inl zw)), none, none, none] [] h (fun w h' => w = none ∧ ab_Sh sx_sk h' ∧ ab_Fr syy_W h h' ∧ mi_f h' 13953 = mi_f h 13953 + (say_l zw 8 0).length ∧ mi_a h' 110 = apl (say_l zw 8 0) (mi_f h 13953).toNat (mi_a h 110)) := by
  refine mt_syA hS (fun h1 g1 g2 => ?_)
  have e0 := me_nil g2
  subst e0
  exact sy_loop hb 8 0 none h1 (by decide) me_on hS hl
/-- acc is written, rest is to come -/
def rs_S (h0 : sm_H) (acc rest full : List Int) (h : sm_H) : Prop := ab_Sh sx_sk h ∧ ab_Fr rt_W h0 h ∧ mi_f h 13953 = acc.length ∧ mi_a h 110 = apl acc 0 (mi_a h0 110) ∧ acc ++ rest = full ∧ full.length ≤ 200
def rs_Q (h0 : sm_H) (full : List Int) (w : Option mi_V) (h' : sm_H) : Prop := (∃ y, w = some (.inl y) ∧ mi_in y) ∧ ab_Sh sx_sk h' ∧ ab_Fr rt_W h0 h' ∧ mi_f h' 13953 = full.length ∧ mi_a h' 110 = apl full 0 (mi_a h0 110)
theorem rs_say {h0 : sm_H} {zw : Int64} {acc rest full : List Int} {Q : Option mi_V → sm_H → Prop} {m pc : Nat} {ls : mi_L} {D : Nat} (hb : (List.range 8).all (fun j => decide (sb_y zw (j : Int) ≤ 255)) = true) (hs : rs_S h0 acc (say_l zw 8 0 ++ rest) full h) (K : ∀ h', rs_S h0 (acc ++ say_l zw 8 0) rest full h' → me_E D m pc ls [] h' Q) : ∃ Q1, me_E (d + 0) 174 0 (mi_entry 5 [.inr (.inr 109), .inr (.inl zw)]) [] h Q1 ∧ ∀ w h2, (∀ v, w = some v → mi_ok v) → Q1 w h2 → me_E D m pc ls (mi_back w []) h2 Q := by
  obtain ⟨s1, s2, s3, s4, s5, s6⟩ := hs
  have hl : acc.length + ((say_l zw 8 0).length + rest.length) = full.length := by rw [← s5, List.length_append, List.length_append]
  refine ⟨_, me_say (d := d + 0) (fun j hj => of_decide_eq_true (List.all_eq_true.mp hb j (List.mem_range.mpr hj))) s1 (by rw [s3]; omega), fun w h2 oww hq => ?_⟩
  obtain ⟨rfl, q1, q2, q3, q4⟩ := hq
  refine K h2 ⟨q1, s2.trans (q2.wide (fun c hc => ab_swr_ok (by decide) hc)), by rw [q3, s3, List.length_append]; omega, ?_, by rw [List.append_assoc]; exact s5, s6⟩
  rw [q4, s4, s3, apl_app, show 0 + acc.length = ((acc.length : Int)).toNat by omega]
end TXR
def rs_f0 : List Int := say_l (Int64.ofNat 2317137553972338757) 8 0 ++ (say_l (Int64.ofNat 2819389844338712616) 8 0 ++ (say_l (Int64.ofNat 3037994969327018029) 8 0 ++ (say_l (Int64.ofNat 5053105990967900960) 8 0 ++ (say_l (Int64.ofNat 2317707977301174304) 8 0 ++ (say_l (Int64.ofNat 5053084000116482172) 8 0 ++ (say_l (Int64.ofNat 2325557506642422048) 8 0 ++ (say_l (Int64.ofNat 8243102915232669757) 8 0 ++ (say_l (Int64.ofNat 2334392247088348192) 8 0 ++ (say_l (Int64.ofNat 2819329371148853372) 8 0 ++ (say_l (Int64.ofNat 171647017) 8 0 ++ ([])))))))))))
set_option maxRecDepth 20000 in
theorem rs_e0 : rs_f0 = sw_s11 := by decide +kernel
theorem rs_113 {d : Nat} {h0 h : sm_H} {zk : Int} {acc full : List Int} (ok : mi_in zk) (hs : rs_S h0 acc [] full h) : me_E (d + 1) 173 113 [some (.inr (.inr 109)), some (.inl zk)] [] h (rs_Q h0 full) := by
  obtain ⟨s1, s2, s3, s4, s5, s6⟩ := hs
  have e : acc = full := by rw [← s5]; exact (List.append_nil acc).symm
  have b := me_fb (c := 13953) s1 rfl
  refine mt_rs113 s1 ok (fun h1 g1 g2 => ?_)
  have e0 := me_nil g2
  subst e0
  exact ⟨⟨_, rfl, by omega, by omega⟩, s1, s2, by rw [s3, e], by rw [s4, e]⟩
theorem rs_106 {d : Nat} {h0 h : sm_H} {zk : Int} {acc full : List Int} (ok : mi_in zk) (hs : rs_S h0 acc (say_l (Int64.ofNat 171647017) 8 0 ++ ([])) full h) : me_E (d + 1) 173 106 [some (.inr (.inr 109)), some (.inl zk)] [] h (rs_Q h0 full) := by
  refine mt_rs106 hs.1 ok (fun h1 g1 g2 => ?_)
  have e0 := me_nil g2
  subst e0
  exact rs_say (d := d) (zw := Int64.ofNat 171647017) (by decide +kernel) hs (fun h' hs' => rs_113 ok hs')
theorem rs_99 {d : Nat} {h0 h : sm_H} {zk : Int} {acc full : List Int} (ok : mi_in zk) (hs : rs_S h0 acc (say_l (Int64.ofNat 2819329371148853372) 8 0 ++ (say_l (Int64.ofNat 171647017) 8 0 ++ ([]))) full h) : me_E (d + 1) 173 99 [some (.inr (.inr 109)), some (.inl zk)] [] h (rs_Q h0 full) := by
  refine mt_rs99 hs.1 ok (fun h1 g1 g2 => ?_)
  have e0 := me_nil g2
  subst e0
  exact rs_say (d := d) (zw := Int64.ofNat 2819329371148853372) (by decide +kernel) hs (fun h' hs' => rs_106 ok hs')
theorem rs_92 {d : Nat} {h0 h : sm_H} {zk : Int} {acc full : List Int} (ok : mi_in zk) (hs : rs_S h0 acc (say_l (Int64.ofNat 2334392247088348192) 8 0 ++ (say_l (Int64.ofNat 2819329371148853372) 8 0 ++ (say_l (Int64.ofNat 171647017) 8 0 ++ ([])))) full h) : me_E (d + 1) 173 92 [some (.inr (.inr 109)), some (.inl zk)] [] h (rs_Q h0 full) := by
  refine mt_rs92 hs.1 ok (fun h1 g1 g2 => ?_)
  have e0 := me_nil g2
  subst e0
  exact rs_say (d := d) (zw := Int64.ofNat 2334392247088348192) (by decide +kernel) hs (fun h' hs' => rs_99 ok hs')
theorem rs_85 {d : Nat} {h0 h : sm_H} {zk : Int} {acc full : List Int} (ok : mi_in zk) (hs : rs_S h0 acc (say_l (Int64.ofNat 8243102915232669757) 8 0 ++ (say_l (Int64.ofNat 2334392247088348192) 8 0 ++ (say_l (Int64.ofNat 2819329371148853372) 8 0 ++ (say_l (Int64.ofNat 171647017) 8 0 ++ ([]))))) full h) : me_E (d + 1) 173 85 [some (.inr (.inr 109)), some (.inl zk)] [] h (rs_Q h0 full) := by
  refine mt_rs85 hs.1 ok (fun h1 g1 g2 => ?_)
  have e0 := me_nil g2
  subst e0
  exact rs_say (d := d) (zw := Int64.ofNat 8243102915232669757) (by decide +kernel) hs (fun h' hs' => rs_92 ok hs')
theorem rs_78 {d : Nat} {h0 h : sm_H} {zk : Int} {acc full : List Int} (ok : mi_in zk) (hs : rs_S h0 acc (say_l (Int64.ofNat 2325557506642422048) 8 0 ++ (say_l (Int64.ofNat 8243102915232669757) 8 0 ++ (say_l (Int64.ofNat 2334392247088348192) 8 0 ++ (say_l (Int64.ofNat 2819329371148853372) 8 0 ++ (say_l (Int64.ofNat 171647017) 8 0 ++ ([])))))) full h) : me_E (d + 1) 173 78 [some (.inr (.inr 109)), some (.inl zk)] [] h (rs_Q h0 full) := by
  refine mt_rs78 hs.1 ok (fun h1 g1 g2 => ?_)
  have e0 := me_nil g2
  subst e0
  exact rs_say (d := d) (zw := Int64.ofNat 2325557506642422048) (by decide +kernel) hs (fun h' hs' => rs_85 ok hs')
theorem rs_71 {d : Nat} {h0 h : sm_H} {zk : Int} {acc full : List Int} (ok : mi_in zk) (hs : rs_S h0 acc (say_l (Int64.ofNat 5053084000116482172) 8 0 ++ (say_l (Int64.ofNat 2325557506642422048) 8 0 ++ (say_l (Int64.ofNat 8243102915232669757) 8 0 ++ (say_l (Int64.ofNat 2334392247088348192) 8 0 ++ (say_l (Int64.ofNat 2819329371148853372) 8 0 ++ (say_l (Int64.ofNat 171647017) 8 0 ++ ([]))))))) full h) : me_E (d + 1) 173 71 [some (.inr (.inr 109)), some (.inl zk)] [] h (rs_Q h0 full) := by
  refine mt_rs71 hs.1 ok (fun h1 g1 g2 => ?_)
  have e0 := me_nil g2
  subst e0
  exact rs_say (d := d) (zw := Int64.ofNat 5053084000116482172) (by decide +kernel) hs (fun h' hs' => rs_78 ok hs')
theorem rs_64 {d : Nat} {h0 h : sm_H} {zk : Int} {acc full : List Int} (ok : mi_in zk) (hs : rs_S h0 acc (say_l (Int64.ofNat 2317707977301174304) 8 0 ++ (say_l (Int64.ofNat 5053084000116482172) 8 0 ++ (say_l (Int64.ofNat 2325557506642422048) 8 0 ++ (say_l (Int64.ofNat 8243102915232669757) 8 0 ++ (say_l (Int64.ofNat 2334392247088348192) 8 0 ++ (say_l (Int64.ofNat 2819329371148853372) 8 0 ++ (say_l (Int64.ofNat 171647017) 8 0 ++ ([])))))))) full h) : me_E (d + 1) 173 64 [some (.inr (.inr 109)), some (.inl zk)] [] h (rs_Q h0 full) := by
  refine mt_rs64 hs.1 ok (fun h1 g1 g2 => ?_)
  have e0 := me_nil g2
  subst e0
  exact rs_say (d := d) (zw := Int64.ofNat 2317707977301174304) (by decide +kernel) hs (fun h' hs' => rs_71 ok hs')
theorem rs_57 {d : Nat} {h0 h : sm_H} {zk : Int} {acc full : List Int} (ok : mi_in zk) (hs : rs_S h0 acc (say_l (Int64.ofNat 5053105990967900960) 8 0 ++ (say_l (Int64.ofNat 2317707977301174304) 8 0 ++ (say_l (Int64.ofNat 5053084000116482172) 8 0 ++ (say_l (Int64.ofNat 2325557506642422048) 8 0 ++ (say_l (Int64.ofNat 8243102915232669757) 8 0 ++ (say_l (Int64.ofNat 2334392247088348192) 8 0 ++ (say_l (Int64.ofNat 2819329371148853372) 8 0 ++ (say_l (Int64.ofNat 171647017) 8 0 ++ ([]))))))))) full h) : me_E (d + 1) 173 57 [some (.inr (.inr 109)), some (.inl zk)] [] h (rs_Q h0 full) := by
  refine mt_rs57 hs.1 ok (fun h1 g1 g2 => ?_)
  have e0 := me_nil g2
  subst e0
  exact rs_say (d := d) (zw := Int64.ofNat 5053105990967900960) (by decide +kernel) hs (fun h' hs' => rs_64 ok hs')
theorem rs_50 {d : Nat} {h0 h : sm_H} {zk : Int} {acc full : List Int} (ok : mi_in zk) (hs : rs_S h0 acc (say_l (Int64.ofNat 3037994969327018029) 8 0 ++ (say_l (Int64.ofNat 5053105990967900960) 8 0 ++ (say_l (Int64.ofNat 2317707977301174304) 8 0 ++ (say_l (Int64.ofNat 5053084000116482172) 8 0 ++ (say_l (Int64.ofNat 2325557506642422048) 8 0 ++ (say_l (Int64.ofNat 8243102915232669757) 8 0 ++ (say_l (Int64.ofNat 2334392247088348192) 8 0 ++ (say_l (Int64.ofNat 2819329371148853372) 8 0 ++ (say_l (Int64.ofNat 171647017) 8 0 ++ ([])))))))))) full h) : me_E (d + 1) 173 50 [some (.inr (.inr 109)), some (.inl zk)] [] h (rs_Q h0 full) := by
  refine mt_rs50 hs.1 ok (fun h1 g1 g2 => ?_)
  have e0 := me_nil g2
  subst e0
  exact rs_say (d := d) (zw := Int64.ofNat 3037994969327018029) (by decide +kernel) hs (fun h' hs' => rs_57 ok hs')
theorem rs_43 {d : Nat} {h0 h : sm_H} {zk : Int} {acc full : List Int} (ok : mi_in zk) (hs : rs_S h0 acc (say_l (Int64.ofNat 2819389844338712616) 8 0 ++ (say_l (Int64.ofNat 3037994969327018029) 8 0 ++ (say_l (Int64.ofNat 5053105990967900960) 8 0 ++ (say_l (Int64.ofNat 2317707977301174304) 8 0 ++ (say_l (Int64.ofNat 5053084000116482172) 8 0 ++ (say_l (Int64.ofNat 2325557506642422048) 8 0 ++ (say_l (Int64.ofNat 8243102915232669757) 8 0 ++ (say_l (Int64.ofNat 2334392247088348192) 8 0 ++ (say_l (Int64.ofNat 2819329371148853372) 8 0 ++ (say_l (Int64.ofNat 171647017) 8 0 ++ ([]))))))))))) full h) : me_E (d + 1) 173 43 [some (.inr (.inr 109)), some (.inl zk)] [] h (rs_Q h0 full) := by
  refine mt_rs43 hs.1 ok (fun h1 g1 g2 => ?_)
  have e0 := me_nil g2
  subst e0
  exact rs_say (d := d) (zw := Int64.ofNat 2819389844338712616) (by decide +kernel) hs (fun h' hs' => rs_50 ok hs')
def rs_f1 : List Int := say_l (Int64.ofNat 7214902011022352464) 8 0 ++ (say_l (Int64.ofNat 2317137683982345573) 8 0 ++ (say_l (Int64.ofNat 2963459953415580012) 8 0 ++ (say_l (Int64.ofNat 7791345429930713130) 8 0 ++ (say_l (Int64.ofNat 4260542854493204073) 8 0 ++ (say_l (Int64.ofNat 7308253817175298826) 8 0 ++ (say_l (Int64.ofNat 2334392247088325236) 8 0 ++ (say_l (Int64.ofNat 4406526406190787682) 8 0 ++ (say_l (Int64.ofNat 6206078408341611040) 8 0 ++ (say_l (Int64.ofNat 7215365270489736992) 8 0 ++ (say_l (Int64.ofNat 2459101874769371759) 8 0 ++ (say_l (Int64.ofNat 2819348062750930288) 8 0 ++ (say_l (Int64.ofNat 2323048536703967291) 8 0 ++ (say_l (Int64.ofNat 7935479022009278830) 8 0 ++ (say_l (Int64.ofNat 2317982108911562101) 8 0 ++ (say_l (Int64.ofNat 6206009932588523569) 8 0 ++ (say_l (Int64.ofNat 670496) 8 0 ++ ([])))))))))))))))))
set_option maxRecDepth 20000 in
theorem rs_e1 : rs_f1 = sw_s12 := by decide +kernel
theorem rs_240 {d : Nat} {h0 h : sm_H} {zk : Int} {acc full : List Int} (ok : mi_in zk) (hs : rs_S h0 acc [] full h) : me_E (d + 1) 173 240 [some (.inr (.inr 109)), some (.inl zk)] [] h (rs_Q h0 full) := by
  obtain ⟨s1, s2, s3, s4, s5, s6⟩ := hs
  have e : acc = full := by rw [← s5]; exact (List.append_nil acc).symm
  have b := me_fb (c := 13953) s1 rfl
  refine mt_rs240 s1 ok (fun h1 g1 g2 => ?_)
  have e0 := me_nil g2
  subst e0
  exact ⟨⟨_, rfl, by omega, by omega⟩, s1, s2, by rw [s3, e], by rw [s4, e]⟩
theorem rs_233 {d : Nat} {h0 h : sm_H} {zk : Int} {acc full : List Int} (ok : mi_in zk) (hs : rs_S h0 acc (say_l (Int64.ofNat 670496) 8 0 ++ ([])) full h) : me_E (d + 1) 173 233 [some (.inr (.inr 109)), some (.inl zk)] [] h (rs_Q h0 full) := by
  refine mt_rs233 hs.1 ok (fun h1 g1 g2 => ?_)
  have e0 := me_nil g2
  subst e0
  exact rs_say (d := d) (zw := Int64.ofNat 670496) (by decide +kernel) hs (fun h' hs' => rs_240 ok hs')
theorem rs_226 {d : Nat} {h0 h : sm_H} {zk : Int} {acc full : List Int} (ok : mi_in zk) (hs : rs_S h0 acc (say_l (Int64.ofNat 6206009932588523569) 8 0 ++ (say_l (Int64.ofNat 670496) 8 0 ++ ([]))) full h) : me_E (d + 1) 173 226 [some (.inr (.inr 109)), some (.inl zk)] [] h (rs_Q h0 full) := by
  refine mt_rs226 hs.1 ok (fun h1 g1 g2 => ?_)
  have e0 := me_nil g2
  subst e0
  exact rs_say (d := d) (zw := Int64.ofNat 6206009932588523569) (by decide +kernel) hs (fun h' hs' => rs_233 ok hs')
theorem rs_219 {d : Nat} {h0 h : sm_H} {zk : Int} {acc full : List Int} (ok : mi_in zk) (hs : rs_S h0 acc (say_l (Int64.ofNat 2317982108911562101) 8 0 ++ (say_l (Int64.ofNat 6206009932588523569) 8 0 ++ (say_l (Int64.ofNat 670496) 8 0 ++ ([])))) full h) : me_E (d + 1) 173 219 [some (.inr (.inr 109)), some (.inl zk)] [] h (rs_Q h0 full) := by
  refine mt_rs219 hs.1 ok (fun h1 g1 g2 => ?_)
  have e0 := me_nil g2
  subst e0
  exact rs_say (d := d) (zw := Int64.ofNat 2317982108911562101) (by decide +kernel) hs (fun h' hs' => rs_226 ok hs')
theorem rs_212 {d : Nat} {h0 h : sm_H} {zk : Int} {acc full : List Int} (ok : mi_in zk) (hs : rs_S h0 acc (say_l (Int64.ofNat 7935479022009278830) 8 0 ++ (say_l (Int64.ofNat 2317982108911562101) 8 0 ++ (say_l (Int64.ofNat 6206009932588523569) 8 0 ++ (say_l (Int64.ofNat 670496) 8 0 ++ ([]))))) full h) : me_E (d + 1) 173 212 [some (.inr (.inr 109)), some (.inl zk)] [] h (rs_Q h0 full) := by
  refine mt_rs212 hs.1 ok (fun h1 g1 g2 => ?_)
  have e0 := me_nil g2
  subst e0
  exact rs_say (d := d) (zw := Int64.ofNat 7935479022009278830) (by decide +kernel) hs (fun h' hs' => rs_219 ok hs')
theorem rs_205 {d : Nat} {h0 h : sm_H} {zk : Int} {acc full : List Int} (ok : mi_in zk) (hs : rs_S h0 acc (say_l (Int64.ofNat 2323048536703967291) 8 0 ++ (say_l (Int64.ofNat 7935479022009278830) 8 0 ++ (say_l (Int64.ofNat 2317982108911562101) 8 0 ++ (say_l (Int64.ofNat 6206009932588523569) 8 0 ++ (say_l (Int64.ofNat 670496) 8 0 ++ ([])))))) full h) : me_E (d + 1) 173 205 [some (.inr (.inr 109)), some (.inl zk)] [] h (rs_Q h0 full) := by
  refine mt_rs205 hs.1 ok (fun h1 g1 g2 => ?_)
  have e0 := me_nil g2
  subst e0
  exact rs_say (d := d) (zw := Int64.ofNat 2323048536703967291) (by decide +kernel) hs (fun h' hs' => rs_212 ok hs')
theorem rs_198 {d : Nat} {h0 h : sm_H} {zk : Int} {acc full : List Int} (ok : mi_in zk) (hs : rs_S h0 acc (say_l (Int64.ofNat 2819348062750930288) 8 0 ++ (say_l (Int64.ofNat 2323048536703967291) 8 0 ++ (say_l (Int64.ofNat 7935479022009278830) 8 0 ++ (say_l (Int64.ofNat 2317982108911562101) 8 0 ++ (say_l (Int64.ofNat 6206009932588523569) 8 0 ++ (say_l (Int64.ofNat 670496) 8 0 ++ ([]))))))) full h) : me_E (d + 1) 173 198 [some (.inr (.inr 109)), some (.inl zk)] [] h (rs_Q h0 full) := by
  refine mt_rs198 hs.1 ok (fun h1 g1 g2 => ?_)
  have e0 := me_nil g2
  subst e0
  exact rs_say (d := d) (zw := Int64.ofNat 2819348062750930288) (by decide +kernel) hs (fun h' hs' => rs_205 ok hs')
theorem rs_191 {d : Nat} {h0 h : sm_H} {zk : Int} {acc full : List Int} (ok : mi_in zk) (hs : rs_S h0 acc (say_l (Int64.ofNat 2459101874769371759) 8 0 ++ (say_l (Int64.ofNat 2819348062750930288) 8 0 ++ (say_l (Int64.ofNat 2323048536703967291) 8 0 ++ (say_l (Int64.ofNat 7935479022009278830) 8 0 ++ (say_l (Int64.ofNat 2317982108911562101) 8 0 ++ (say_l (Int64.ofNat 6206009932588523569) 8 0 ++ (say_l (Int64.ofNat 670496) 8 0 ++ ([])))))))) full h) : me_E (d + 1) 173 191 [some (.inr (.inr 109)), some (.inl zk)] [] h (rs_Q h0 full) := by
  refine mt_rs191 hs.1 ok (fun h1 g1 g2 => ?_)
  have e0 := me_nil g2
  subst e0
  exact rs_say (d := d) (zw := Int64.ofNat 2459101874769371759) (by decide +kernel) hs (fun h' hs' => rs_198 ok hs')
theorem rs_184 {d : Nat} {h0 h : sm_H} {zk : Int} {acc full : List Int} (ok : mi_in zk) (hs : rs_S h0 acc (say_l (Int64.ofNat 7215365270489736992) 8 0 ++ (say_l (Int64.ofNat 2459101874769371759) 8 0 ++ (say_l (Int64.ofNat 2819348062750930288) 8 0 ++ (say_l (Int64.ofNat 2323048536703967291) 8 0 ++ (say_l (Int64.ofNat 7935479022009278830) 8 0 ++ (say_l (Int64.ofNat 2317982108911562101) 8 0 ++ (say_l (Int64.ofNat 6206009932588523569) 8 0 ++ (say_l (Int64.ofNat 670496) 8 0 ++ ([]))))))))) full h) : me_E (d + 1) 173 184 [some (.inr (.inr 109)), some (.inl zk)] [] h (rs_Q h0 full) := by
  refine mt_rs184 hs.1 ok (fun h1 g1 g2 => ?_)
  have e0 := me_nil g2
  subst e0
  exact rs_say (d := d) (zw := Int64.ofNat 7215365270489736992) (by decide +kernel) hs (fun h' hs' => rs_191 ok hs')
theorem rs_177 {d : Nat} {h0 h : sm_H} {zk : Int} {acc full : List Int} (ok : mi_in zk) (hs : rs_S h0 acc (say_l (Int64.ofNat 6206078408341611040) 8 0 ++ (say_l (Int64.ofNat 7215365270489736992) 8 0 ++ (say_l (Int64.ofNat 2459101874769371759) 8 0 ++ (say_l (Int64.ofNat 2819348062750930288) 8 0 ++ (say_l (Int64.ofNat 2323048536703967291) 8 0 ++ (say_l (Int64.ofNat 7935479022009278830) 8 0 ++ (say_l (Int64.ofNat 2317982108911562101) 8 0 ++ (say_l (Int64.ofNat 6206009932588523569) 8 0 ++ (say_l (Int64.ofNat 670496) 8 0 ++ ([])))))))))) full h) : me_E (d + 1) 173 177 [some (.inr (.inr 109)), some (.inl zk)] [] h (rs_Q h0 full) := by
  refine mt_rs177 hs.1 ok (fun h1 g1 g2 => ?_)
  have e0 := me_nil g2
  subst e0
  exact rs_say (d := d) (zw := Int64.ofNat 6206078408341611040) (by decide +kernel) hs (fun h' hs' => rs_184 ok hs')
theorem rs_170 {d : Nat} {h0 h : sm_H} {zk : Int} {acc full : List Int} (ok : mi_in zk) (hs : rs_S h0 acc (say_l (Int64.ofNat 4406526406190787682) 8 0 ++ (say_l (Int64.ofNat 6206078408341611040) 8 0 ++ (say_l (Int64.ofNat 7215365270489736992) 8 0 ++ (say_l (Int64.ofNat 2459101874769371759) 8 0 ++ (say_l (Int64.ofNat 2819348062750930288) 8 0 ++ (say_l (Int64.ofNat 2323048536703967291) 8 0 ++ (say_l (Int64.ofNat 7935479022009278830) 8 0 ++ (say_l (Int64.ofNat 2317982108911562101) 8 0 ++ (say_l (Int64.ofNat 6206009932588523569) 8 0 ++ (say_l (Int64.ofNat 670496) 8 0 ++ ([]))))))))))) full h) : me_E (d + 1) 173 170 [some (.inr (.inr 109)), some (.inl zk)] [] h (rs_Q h0 full) := by
  refine mt_rs170 hs.1 ok (fun h1 g1 g2 => ?_)
  have e0 := me_nil g2
  subst e0
  exact rs_say (d := d) (zw := Int64.ofNat 4406526406190787682) (by decide +kernel) hs (fun h' hs' => rs_177 ok hs')
theorem rs_163 {d : Nat} {h0 h : sm_H} {zk : Int} {acc full : List Int} (ok : mi_in zk) (hs : rs_S h0 acc (say_l (Int64.ofNat 2334392247088325236) 8 0 ++ (say_l (Int64.ofNat 4406526406190787682) 8 0 ++ (say_l (Int64.ofNat 6206078408341611040) 8 0 ++ (say_l (Int64.ofNat 7215365270489736992) 8 0 ++ (say_l (Int64.ofNat 2459101874769371759) 8 0 ++ (say_l (Int64.ofNat 2819348062750930288) 8 0 ++ (say_l (Int64.ofNat 2323048536703967291) 8 0 ++ (say_l (Int64.ofNat 7935479022009278830) 8 0 ++ (say_l (Int64.ofNat 2317982108911562101) 8 0 ++ (say_l (Int64.ofNat 6206009932588523569) 8 0 ++ (say_l (Int64.ofNat 670496) 8 0 ++ ([])))))))))))) full h) : me_E (d + 1) 173 163 [some (.inr (.inr 109)), some (.inl zk)] [] h (rs_Q h0 full) := by
  refine mt_rs163 hs.1 ok (fun h1 g1 g2 => ?_)
  have e0 := me_nil g2
  subst e0
  exact rs_say (d := d) (zw := Int64.ofNat 2334392247088325236) (by decide +kernel) hs (fun h' hs' => rs_170 ok hs')
theorem rs_156 {d : Nat} {h0 h : sm_H} {zk : Int} {acc full : List Int} (ok : mi_in zk) (hs : rs_S h0 acc (say_l (Int64.ofNat 7308253817175298826) 8 0 ++ (say_l (Int64.ofNat 2334392247088325236) 8 0 ++ (say_l (Int64.ofNat 4406526406190787682) 8 0 ++ (say_l (Int64.ofNat 6206078408341611040) 8 0 ++ (say_l (Int64.ofNat 7215365270489736992) 8 0 ++ (say_l (Int64.ofNat 2459101874769371759) 8 0 ++ (say_l (Int64.ofNat 2819348062750930288) 8 0 ++ (say_l (Int64.ofNat 2323048536703967291) 8 0 ++ (say_l (Int64.ofNat 7935479022009278830) 8 0 ++ (say_l (Int64.ofNat 2317982108911562101) 8 0 ++ (say_l (Int64.ofNat 6206009932588523569) 8 0 ++ (say_l (Int64.ofNat 670496) 8 0 ++ ([]))))))))))))) full h) : me_E (d + 1) 173 156 [some (.inr (.inr 109)), some (.inl zk)] [] h (rs_Q h0 full) := by
  refine mt_rs156 hs.1 ok (fun h1 g1 g2 => ?_)
  have e0 := me_nil g2
  subst e0
  exact rs_say (d := d) (zw := Int64.ofNat 7308253817175298826) (by decide +kernel) hs (fun h' hs' => rs_163 ok hs')
theorem rs_149 {d : Nat} {h0 h : sm_H} {zk : Int} {acc full : List Int} (ok : mi_in zk) (hs : rs_S h0 acc (say_l (Int64.ofNat 4260542854493204073) 8 0 ++ (say_l (Int64.ofNat 7308253817175298826) 8 0 ++ (say_l (Int64.ofNat 2334392247088325236) 8 0 ++ (say_l (Int64.ofNat 4406526406190787682) 8 0 ++ (say_l (Int64.ofNat 6206078408341611040) 8 0 ++ (say_l (Int64.ofNat 7215365270489736992) 8 0 ++ (say_l (Int64.ofNat 2459101874769371759) 8 0 ++ (say_l (Int64.ofNat 2819348062750930288) 8 0 ++ (say_l (Int64.ofNat 2323048536703967291) 8 0 ++ (say_l (Int64.ofNat 7935479022009278830) 8 0 ++ (say_l (Int64.ofNat 2317982108911562101) 8 0 ++ (say_l (Int64.ofNat 6206009932588523569) 8 0 ++ (say_l (Int64.ofNat 670496) 8 0 ++ ([])))))))))))))) full h) : me_E (d + 1) 173 149 [some (.inr (.inr 109)), some (.inl zk)] [] h (rs_Q h0 full) := by
  refine mt_rs149 hs.1 ok (fun h1 g1 g2 => ?_)
  have e0 := me_nil g2
  subst e0
  exact rs_say (d := d) (zw := Int64.ofNat 4260542854493204073) (by decide +kernel) hs (fun h' hs' => rs_156 ok hs')
theorem rs_142 {d : Nat} {h0 h : sm_H} {zk : Int} {acc full : List Int} (ok : mi_in zk) (hs : rs_S h0 acc (say_l (Int64.ofNat 7791345429930713130) 8 0 ++ (say_l (Int64.ofNat 4260542854493204073) 8 0 ++ (say_l (Int64.ofNat 7308253817175298826) 8 0 ++ (say_l (Int64.ofNat 2334392247088325236) 8 0 ++ (say_l (Int64.ofNat 4406526406190787682) 8 0 ++ (say_l (Int64.ofNat 6206078408341611040) 8 0 ++ (say_l (Int64.ofNat 7215365270489736992) 8 0 ++ (say_l (Int64.ofNat 2459101874769371759) 8 0 ++ (say_l (Int64.ofNat 2819348062750930288) 8 0 ++ (say_l (Int64.ofNat 2323048536703967291) 8 0 ++ (say_l (Int64.ofNat 7935479022009278830) 8 0 ++ (say_l (Int64.ofNat 2317982108911562101) 8 0 ++ (say_l (Int64.ofNat 6206009932588523569) 8 0 ++ (say_l (Int64.ofNat 670496) 8 0 ++ ([]))))))))))))))) full h) : me_E (d + 1) 173 142 [some (.inr (.inr 109)), some (.inl zk)] [] h (rs_Q h0 full) := by
  refine mt_rs142 hs.1 ok (fun h1 g1 g2 => ?_)
  have e0 := me_nil g2
  subst e0
  exact rs_say (d := d) (zw := Int64.ofNat 7791345429930713130) (by decide +kernel) hs (fun h' hs' => rs_149 ok hs')
theorem rs_135 {d : Nat} {h0 h : sm_H} {zk : Int} {acc full : List Int} (ok : mi_in zk) (hs : rs_S h0 acc (say_l (Int64.ofNat 2963459953415580012) 8 0 ++ (say_l (Int64.ofNat 7791345429930713130) 8 0 ++ (say_l (Int64.ofNat 4260542854493204073) 8 0 ++ (say_l (Int64.ofNat 7308253817175298826) 8 0 ++ (say_l (Int64.ofNat 2334392247088325236) 8 0 ++ (say_l (Int64.ofNat 4406526406190787682) 8 0 ++ (say_l (Int64.ofNat 6206078408341611040) 8 0 ++ (say_l (Int64.ofNat 7215365270489736992) 8 0 ++ (say_l (Int64.ofNat 2459101874769371759) 8 0 ++ (say_l (Int64.ofNat 2819348062750930288) 8 0 ++ (say_l (Int64.ofNat 2323048536703967291) 8 0 ++ (say_l (Int64.ofNat 7935479022009278830) 8 0 ++ (say_l (Int64.ofNat 2317982108911562101) 8 0 ++ (say_l (Int64.ofNat 6206009932588523569) 8 0 ++ (say_l (Int64.ofNat 670496) 8 0 ++ ([])))))))))))))))) full h) : me_E (d + 1) 173 135 [some (.inr (.inr 109)), some (.inl zk)] [] h (rs_Q h0 full) := by
  refine mt_rs135 hs.1 ok (fun h1 g1 g2 => ?_)
  have e0 := me_nil g2
  subst e0
  exact rs_say (d := d) (zw := Int64.ofNat 2963459953415580012) (by decide +kernel) hs (fun h' hs' => rs_142 ok hs')
theorem rs_128 {d : Nat} {h0 h : sm_H} {zk : Int} {acc full : List Int} (ok : mi_in zk) (hs : rs_S h0 acc (say_l (Int64.ofNat 2317137683982345573) 8 0 ++ (say_l (Int64.ofNat 2963459953415580012) 8 0 ++ (say_l (Int64.ofNat 7791345429930713130) 8 0 ++ (say_l (Int64.ofNat 4260542854493204073) 8 0 ++ (say_l (Int64.ofNat 7308253817175298826) 8 0 ++ (say_l (Int64.ofNat 2334392247088325236) 8 0 ++ (say_l (Int64.ofNat 4406526406190787682) 8 0 ++ (say_l (Int64.ofNat 6206078408341611040) 8 0 ++ (say_l (Int64.ofNat 7215365270489736992) 8 0 ++ (say_l (Int64.ofNat 2459101874769371759) 8 0 ++ (say_l (Int64.ofNat 2819348062750930288) 8 0 ++ (say_l (Int64.ofNat 2323048536703967291) 8 0 ++ (say_l (Int64.ofNat 7935479022009278830) 8 0 ++ (say_l (Int64.ofNat 2317982108911562101) 8 0 ++ (say_l (Int64.ofNat 6206009932588523569) 8 0 ++ (say_l (Int64.ofNat 670496) 8 0 ++ ([]))))))))))))))))) full h) : me_E (d + 1) 173 128 [some (.inr (.inr 109)), some (.inl zk)] [] h (rs_Q h0 full) := by
  refine mt_rs128 hs.1 ok (fun h1 g1 g2 => ?_)
  have e0 := me_nil g2
  subst e0
  exact rs_say (d := d) (zw := Int64.ofNat 2317137683982345573) (by decide +kernel) hs (fun h' hs' => rs_135 ok hs')
def rs_f2 : List Int := say_l (Int64.ofNat 2891411184374587460) 8 0 ++ (say_l (Int64.ofNat 2318270927254606368) 8 0 ++ (say_l (Int64.ofNat 2328959603089435746) 8 0 ++ (say_l (Int64.ofNat 6712369225264015913) 8 0 ++ (say_l (Int64.ofNat 7935409752451463968) 8 0 ++ (say_l (Int64.ofNat 2891374900493512033) 8 0 ++ (say_l (Int64.ofNat 2338042629976321568) 8 0 ++ (say_l (Int64.ofNat 737218325013405822) 8 0 ++ (say_l (Int64.ofNat 7935381194378387541) 8 0 ++ (say_l (Int64.ofNat 2819389844678339937) 8 0 ++ (say_l (Int64.ofNat 8390326386895364132) 8 0 ++ (say_l (Int64.ofNat 171647097) 8 0 ++ ([]))))))))))))
set_option maxRecDepth 20000 in
theorem rs_e2 : rs_f2 = sw_s13 := by decide +kernel
theorem rs_327 {d : Nat} {h0 h : sm_H} {zk : Int} {acc full : List Int} (ok : mi_in zk) (hs : rs_S h0 acc [] full h) : me_E (d + 1) 173 327 [some (.inr (.inr 109)), some (.inl zk)] [] h (rs_Q h0 full) := by
  obtain ⟨s1, s2, s3, s4, s5, s6⟩ := hs
  have e : acc = full := by rw [← s5]; exact (List.append_nil acc).symm
  have b := me_fb (c := 13953) s1 rfl
  refine mt_rs327 s1 ok (fun h1 g1 g2 => ?_)
  have e0 := me_nil g2
  subst e0
  exact ⟨⟨_, rfl, by omega, by omega⟩, s1, s2, by rw [s3, e], by rw [s4, e]⟩
theorem rs_320 {d : Nat} {h0 h : sm_H} {zk : Int} {acc full : List Int} (ok : mi_in zk) (hs : rs_S h0 acc (say_l (Int64.ofNat 171647097) 8 0 ++ ([])) full h) : me_E (d + 1) 173 320 [some (.inr (.inr 109)), some (.inl zk)] [] h (rs_Q h0 full) := by
  refine mt_rs320 hs.1 ok (fun h1 g1 g2 => ?_)
  have e0 := me_nil g2
  subst e0
  exact rs_say (d := d) (zw := Int64.ofNat 171647097) (by decide +kernel) hs (fun h' hs' => rs_327 ok hs')
theorem rs_313 {d : Nat} {h0 h : sm_H} {zk : Int} {acc full : List Int} (ok : mi_in zk) (hs : rs_S h0 acc (say_l (Int64.ofNat 8390326386895364132) 8 0 ++ (say_l (Int64.ofNat 171647097) 8 0 ++ ([]))) full h) : me_E (d + 1) 173 313 [some (.inr (.inr 109)), some (.inl zk)] [] h (rs_Q h0 full) := by
  refine mt_rs313 hs.1 ok (fun h1 g1 g2 => ?_)
  have e0 := me_nil g2
  subst e0
  exact rs_say (d := d) (zw := Int64.ofNat 8390326386895364132) (by decide +kernel) hs (fun h' hs' => rs_320 ok hs')
theorem rs_306 {d : Nat} {h0 h : sm_H} {zk : Int} {acc full : List Int} (ok : mi_in zk) (hs : rs_S h0 acc (say_l (Int64.ofNat 2819389844678339937) 8 0 ++ (say_l (Int64.ofNat 8390326386895364132) 8 0 ++ (say_l (Int64.ofNat 171647097) 8 0 ++ ([])))) full h) : me_E (d + 1) 173 306 [some (.inr (.inr 109)), some (.inl zk)] [] h (rs_Q h0 full) := by
  refine mt_rs306 hs.1 ok (fun h1 g1 g2 => ?_)
  have e0 := me_nil g2
  subst e0
  exact rs_say (d := d) (zw := Int64.ofNat 2819389844678339937) (by decide +kernel) hs (fun h' hs' => rs_313 ok hs')
theorem rs_299 {d : Nat} {h0 h : sm_H} {zk : Int} {acc full : List Int} (ok : mi_in zk) (hs : rs_S h0 acc (say_l (Int64.ofNat 7935381194378387541) 8 0 ++ (say_l (Int64.ofNat 2819389844678339937) 8 0 ++ (say_l (Int64.ofNat 8390326386895364132) 8 0 ++ (say_l (Int64.ofNat 171647097) 8 0 ++ ([]))))) full h) : me_E (d + 1) 173 299 [some (.inr (.inr 109)), some (.inl zk)] [] h (rs_Q h0 full) := by
  refine mt_rs299 hs.1 ok (fun h1 g1 g2 => ?_)
  have e0 := me_nil g2
  subst e0
  exact rs_say (d := d) (zw := Int64.ofNat 7935381194378387541) (by decide +kernel) hs (fun h' hs' => rs_306 ok hs')
theorem rs_292 {d : Nat} {h0 h : sm_H} {zk : Int} {acc full : List Int} (ok : mi_in zk) (hs : rs_S h0 acc (say_l (Int64.ofNat 737218325013405822) 8 0 ++ (say_l (Int64.ofNat 7935381194378387541) 8 0 ++ (say_l (Int64.ofNat 2819389844678339937) 8 0 ++ (say_l (Int64.ofNat 8390326386895364132) 8 0 ++ (say_l (Int64.ofNat 171647097) 8 0 ++ ([])))))) full h) : me_E (d + 1) 173 292 [some (.inr (.inr 109)), some (.inl zk)] [] h (rs_Q h0 full) := by
  refine mt_rs292 hs.1 ok (fun h1 g1 g2 => ?_)
  have e0 := me_nil g2
  subst e0
  exact rs_say (d := d) (zw := Int64.ofNat 737218325013405822) (by decide +kernel) hs (fun h' hs' => rs_299 ok hs')
theorem rs_285 {d : Nat} {h0 h : sm_H} {zk : Int} {acc full : List Int} (ok : mi_in zk) (hs : rs_S h0 acc (say_l (Int64.ofNat 2338042629976321568) 8 0 ++ (say_l (Int64.ofNat 737218325013405822) 8 0 ++ (say_l (Int64.ofNat 7935381194378387541) 8 0 ++ (say_l (Int64.ofNat 2819389844678339937) 8 0 ++ (say_l (Int64.ofNat 8390326386895364132) 8 0 ++ (say_l (Int64.ofNat 171647097) 8 0 ++ ([]))))))) full h) : me_E (d + 1) 173 285 [some (.inr (.inr 109)), some (.inl zk)] [] h (rs_Q h0 full) := by
  refine mt_rs285 hs.1 ok (fun h1 g1 g2 => ?_)
  have e0 := me_nil g2
  subst e0
  exact rs_say (d := d) (zw := Int64.ofNat 2338042629976321568) (by decide +kernel) hs (fun h' hs' => rs_292 ok hs')
theorem rs_278 {d : Nat} {h0 h : sm_H} {zk : Int} {acc full : List Int} (ok : mi_in zk) (hs : rs_S h0 acc (say_l (Int64.ofNat 2891374900493512033) 8 0 ++ (say_l (Int64.ofNat 2338042629976321568) 8 0 ++ (say_l (Int64.ofNat 737218325013405822) 8 0 ++ (say_l (Int64.ofNat 7935381194378387541) 8 0 ++ (say_l (Int64.ofNat 2819389844678339937) 8 0 ++ (say_l (Int64.ofNat 8390326386895364132) 8 0 ++ (say_l (Int64.ofNat 171647097) 8 0 ++ ([])))))))) full h) : me_E (d + 1) 173 278 [some (.inr (.inr 109)), some (.inl zk)] [] h (rs_Q h0 full) := by
  refine mt_rs278 hs.1 ok (fun h1 g1 g2 => ?_)
  have e0 := me_nil g2
  subst e0
  exact rs_say (d := d) (zw := Int64.ofNat 2891374900493512033) (by decide +kernel) hs (fun h' hs' => rs_285 ok hs')
theorem rs_271 {d : Nat} {h0 h : sm_H} {zk : Int} {acc full : List Int} (ok : mi_in zk) (hs : rs_S h0 acc (say_l (Int64.ofNat 7935409752451463968) 8 0 ++ (say_l (Int64.ofNat 2891374900493512033) 8 0 ++ (say_l (Int64.ofNat 2338042629976321568) 8 0 ++ (say_l (Int64.ofNat 737218325013405822) 8 0 ++ (say_l (Int64.ofNat 7935381194378387541) 8 0 ++ (say_l (Int64.ofNat 2819389844678339937) 8 0 ++ (say_l (Int64.ofNat 8390326386895364132) 8 0 ++ (say_l (Int64.ofNat 171647097) 8 0 ++ ([]))))))))) full h) : me_E (d + 1) 173 271 [some (.inr (.inr 109)), some (.inl zk)] [] h (rs_Q h0 full) := by
  refine mt_rs271 hs.1 ok (fun h1 g1 g2 => ?_)
  have e0 := me_nil g2
  subst e0
  exact rs_say (d := d) (zw := Int64.ofNat 7935409752451463968) (by decide +kernel) hs (fun h' hs' => rs_278 ok hs')
theorem rs_264 {d : Nat} {h0 h : sm_H} {zk : Int} {acc full : List Int} (ok : mi_in zk) (hs : rs_S h0 acc (say_l (Int64.ofNat 6712369225264015913) 8 0 ++ (say_l (Int64.ofNat 7935409752451463968) 8 0 ++ (say_l (Int64.ofNat 2891374900493512033) 8 0 ++ (say_l (Int64.ofNat 2338042629976321568) 8 0 ++ (say_l (Int64.ofNat 737218325013405822) 8 0 ++ (say_l (Int64.ofNat 7935381194378387541) 8 0 ++ (say_l (Int64.ofNat 2819389844678339937) 8 0 ++ (say_l (Int64.ofNat 8390326386895364132) 8 0 ++ (say_l (Int64.ofNat 171647097) 8 0 ++ ([])))))))))) full h) : me_E (d + 1) 173 264 [some (.inr (.inr 109)), some (.inl zk)] [] h (rs_Q h0 full) := by
  refine mt_rs264 hs.1 ok (fun h1 g1 g2 => ?_)
  have e0 := me_nil g2
  subst e0
  exact rs_say (d := d) (zw := Int64.ofNat 6712369225264015913) (by decide +kernel) hs (fun h' hs' => rs_271 ok hs')
theorem rs_257 {d : Nat} {h0 h : sm_H} {zk : Int} {acc full : List Int} (ok : mi_in zk) (hs : rs_S h0 acc (say_l (Int64.ofNat 2328959603089435746) 8 0 ++ (say_l (Int64.ofNat 6712369225264015913) 8 0 ++ (say_l (Int64.ofNat 7935409752451463968) 8 0 ++ (say_l (Int64.ofNat 2891374900493512033) 8 0 ++ (say_l (Int64.ofNat 2338042629976321568) 8 0 ++ (say_l (Int64.ofNat 737218325013405822) 8 0 ++ (say_l (Int64.ofNat 7935381194378387541) 8 0 ++ (say_l (Int64.ofNat 2819389844678339937) 8 0 ++ (say_l (Int64.ofNat 8390326386895364132) 8 0 ++ (say_l (Int64.ofNat 171647097) 8 0 ++ ([]))))))))))) full h) : me_E (d + 1) 173 257 [some (.inr (.inr 109)), some (.inl zk)] [] h (rs_Q h0 full) := by
  refine mt_rs257 hs.1 ok (fun h1 g1 g2 => ?_)
  have e0 := me_nil g2
  subst e0
  exact rs_say (d := d) (zw := Int64.ofNat 2328959603089435746) (by decide +kernel) hs (fun h' hs' => rs_264 ok hs')
theorem rs_250 {d : Nat} {h0 h : sm_H} {zk : Int} {acc full : List Int} (ok : mi_in zk) (hs : rs_S h0 acc (say_l (Int64.ofNat 2318270927254606368) 8 0 ++ (say_l (Int64.ofNat 2328959603089435746) 8 0 ++ (say_l (Int64.ofNat 6712369225264015913) 8 0 ++ (say_l (Int64.ofNat 7935409752451463968) 8 0 ++ (say_l (Int64.ofNat 2891374900493512033) 8 0 ++ (say_l (Int64.ofNat 2338042629976321568) 8 0 ++ (say_l (Int64.ofNat 737218325013405822) 8 0 ++ (say_l (Int64.ofNat 7935381194378387541) 8 0 ++ (say_l (Int64.ofNat 2819389844678339937) 8 0 ++ (say_l (Int64.ofNat 8390326386895364132) 8 0 ++ (say_l (Int64.ofNat 171647097) 8 0 ++ ([])))))))))))) full h) : me_E (d + 1) 173 250 [some (.inr (.inr 109)), some (.inl zk)] [] h (rs_Q h0 full) := by
  refine mt_rs250 hs.1 ok (fun h1 g1 g2 => ?_)
  have e0 := me_nil g2
  subst e0
  exact rs_say (d := d) (zw := Int64.ofNat 2318270927254606368) (by decide +kernel) hs (fun h' hs' => rs_257 ok hs')
theorem me_sampler {d : Nat} {h : sm_H} {zk : Int} (hS : ab_Sh sx_sk h) (ok : mi_in zk) : me_E (d + 1) 173 0 [some (.inr (.inr 109)), some (.inl zk)] [] h (fun w h' => (∃ y, w = some (.inl y) ∧ mi_in y) ∧ ab_Sh sx_sk h' ∧ ab_Fr rt_W h h' ∧ ((0 ≤ zk ∧ zk ≤ 2 ∧ mi_f h' 13953 = (sw_k zk).length ∧ mi_a h' 110 = apl (sw_k zk) 0 (mi_a h 110)) ∨ (¬ (0 ≤ zk ∧ zk ≤ 2) ∧ ab_Fr [(13952, 13953)] h h'))) := by
  have go : ∀ (full : List Int) (h1 : sm_H), full.length ≤ 200 → 0 ≤ zk → zk ≤ 2 → full = sw_k zk → ab_Sh sx_sk h1 → mi_f h1 13953 = 0 → ab_Fr [(13952, 13954)] h h1 → rs_S h [] full full h1 ∧ ∀ w h', rs_Q h full w h' → ((∃ y, w = some (.inl y) ∧ mi_in y) ∧ ab_Sh sx_sk h' ∧ ab_Fr rt_W h h' ∧ ((0 ≤ zk ∧ zk ≤ 2 ∧ mi_f h' 13953 = (sw_k zk).length ∧ mi_a h' 110 = apl (sw_k zk) 0 (mi_a h 110)) ∨ (¬ (0 ≤ zk ∧ zk ≤ 2) ∧ ab_Fr [(13952, 13953)] h h'))) := by
    intro full h1 hf k0 k1 ef s1 s2 s3
    refine ⟨⟨s1, s3.wide (fun c hc => ab_swr_ok (by decide) hc), s2, funext fun i => me_a (k := 110) s3 hS rfl rfl, rfl, hf⟩, fun w h' hq => ?_⟩
    obtain ⟨q1, q2, q3, q4, q5⟩ := hq
    exact ⟨q1, q2, q3, Or.inl ⟨k0, k1, by rw [q4, ef], by rw [q5, ef]⟩⟩
  refine mt_rsA hS ok ?_ ?_ ?_ ?_ ?_
  · intro c1 h1 g1 g2 g3
    exact ⟨⟨0, rfl, fm_in0⟩, g1, g3.wide (fun c hc => ab_swr_ok (by decide) hc), Or.inr ⟨fun q => by omega, g3⟩⟩
  · intro c1 c2 c3 c4 h1 g1 g2 g3 g4
    obtain ⟨G1, G2⟩ := go rs_f2 h1 (by rw [rs_e2]; decide +kernel) c1 c2 (by rw [rs_e2]; unfold sw_k; rw [if_neg c3, if_neg c4]) g1 g3 g4
    exact rs_say (d := d) (zw := Int64.ofNat 2891411184374587460) (by decide +kernel) G1 (fun h' hs' => (rs_250 ok hs').imp G2)
  · intro c1 c2 c3 c4 h1 g1 g2 g3 g4
    obtain ⟨G1, G2⟩ := go rs_f1 h1 (by rw [rs_e1]; decide +kernel) c1 c2 (by rw [rs_e1]; unfold sw_k; rw [if_neg c3, if_pos c4]) g1 g3 g4
    exact rs_say (d := d) (zw := Int64.ofNat 7214902011022352464) (by decide +kernel) G1 (fun h' hs' => (rs_128 ok hs').imp G2)
  · intro c1 c2 c3 h1 g1 g2 g3 g4
    obtain ⟨G1, G2⟩ := go rs_f0 h1 (by rw [rs_e0]; decide +kernel) c1 c2 (by rw [rs_e0]; unfold sw_k; rw [if_pos c3]) g1 g3 g4
    exact rs_say (d := d) (zw := Int64.ofNat 2317137553972338757) (by decide +kernel) G1 (fun h' hs' => (rs_43 ok hs').imp G2)
  · intro c1 c2 h1 g1 g2 g3
    exact ⟨⟨0, rfl, fm_in0⟩, g1, g3.wide (fun c hc => ab_swr_ok (by decide) hc), Or.inr ⟨fun q => by omega, g3⟩⟩
/-! segments: compile, rule -/
set_option maxRecDepth 20000 in
theorem mp_cmA_0 (h : sm_H) (d : Nat) : mj_path [(12, (2, 1, sb_12))] sx_sk h 2 [] (d + 33, 12, 0, [some (.inr (.inr 51)), none], [], [], []) = some ((d + 33, 12, 4, [some (.inr (.inr 51)), none], [.inr (.inr 94)], [], []), []) := rfl
theorem mi_tab_cmA_0 : ∀ e ∈ ([(12, (2, 1, sb_12))] : mi_T), sc_P e.1 = some e.2 := mi_tb mi_P12 (mi_tb_e)
set_option maxRecDepth 20000 in
theorem ms_cmA_0 {h : sm_H} {d : Nat} {Q : Option mi_V → sm_H → Prop} (hS : ab_Sh sx_sk h)  (kon : ∀ h1, me_W [] h h1 → ∃ Q1, me_E (d + 32) 13 0 (mi_entry 1 [.inr (.inr 94)]) [] h1 Q1 ∧ ∀ w h2, (∀ x, w = some x → mi_ok x) → Q1 w h2 → me_E (d + 33) 12 7 [some (.inr (.inr 51)), none] (mi_back w []) h2 Q) : me_E (d + 33) 12 0 [some (.inr (.inr 51)), none] [] h Q := mf_seg (mp_cmA_0 h d ) (mi_tab_cmA_0) hS (mi_okL_c (trivial) (mi_okL_n (mi_okL_e))) (mi_okS_e) (mi_al_e) (fun h1 W _ hst => let ⟨_, k1, k2⟩ := kon h1 W; mf_call (M := (2, 1, sb_12)) (M' := (1, 0, sb_13)) rfl rfl rfl rfl (Nat.le_of_ble_eq_true rfl) (Nat.le_of_ble_eq_true rfl) W.1 k1 k2)
set_option maxRecDepth 20000 in
theorem mt_cmA {h : sm_H} {d : Nat} {Q : Option mi_V → sm_H → Prop} (hS : ab_Sh sx_sk h)  (k0 : (∀ h1, ab_Sh sx_sk h1 → ab_Fr [] h h1 → ∃ Q1, me_E (d + 32) 13 0 (mi_entry 1 [.inr (.inr 94)]) [] h1 Q1 ∧ ∀ w h2, (∀ x, w = some x → mi_ok x) → Q1 w h2 → me_E (d + 33) 12 7 [some (.inr (.inr 51)), none] (mi_back w []) h2 Q)) : me_E (d + 33) 12 0 [some (.inr (.inr 51)), none] [] h Q := ms_cmA_0 hS (fun h1 W => (k0) h1 W.1 (W.2.2.2.2.2 _ rfl))
set_option maxRecDepth 20000 in
theorem mp_cmB_0 (h : sm_H) (d : Nat) : mj_path [(12, (2, 1, sb_12))] sx_sk h 2 [] (d + 33, 12, 7, [some (.inr (.inr 51)), none], [], [], []) = some ((d + 33, 12, 11, [some (.inr (.inr 51)), none], [.inr (.inr 98)], [], []), []) := rfl
theorem mi_tab_cmB_0 : ∀ e ∈ ([(12, (2, 1, sb_12))] : mi_T), sc_P e.1 = some e.2 := mi_tb mi_P12 (mi_tb_e)
set_option maxRecDepth 20000 in
theorem ms_cmB_0 {h : sm_H} {d : Nat} {Q : Option mi_V → sm_H → Prop} (hS : ab_Sh sx_sk h)  (kon : ∀ h1, me_W [] h h1 → ∃ Q1, me_E (d + 32) 13 0 (mi_entry 1 [.inr (.inr 98)]) [] h1 Q1 ∧ ∀ w h2, (∀ x, w = some x → mi_ok x) → Q1 w h2 → me_E (d + 33) 12 14 [some (.inr (.inr 51)), none] (mi_back w []) h2 Q) : me_E (d + 33) 12 7 [some (.inr (.inr 51)), none] [] h Q := mf_seg (mp_cmB_0 h d ) (mi_tab_cmB_0) hS (mi_okL_c (trivial) (mi_okL_n (mi_okL_e))) (mi_okS_e) (mi_al_e) (fun h1 W _ hst => let ⟨_, k1, k2⟩ := kon h1 W; mf_call (M := (2, 1, sb_12)) (M' := (1, 0, sb_13)) rfl rfl rfl rfl (Nat.le_of_ble_eq_true rfl) (Nat.le_of_ble_eq_true rfl) W.1 k1 k2)
set_option maxRecDepth 20000 in
theorem mt_cmB {h : sm_H} {d : Nat} {Q : Option mi_V → sm_H → Prop} (hS : ab_Sh sx_sk h)  (k0 : (∀ h1, ab_Sh sx_sk h1 → ab_Fr [] h h1 → ∃ Q1, me_E (d + 32) 13 0 (mi_entry 1 [.inr (.inr 98)]) [] h1 Q1 ∧ ∀ w h2, (∀ x, w = some x → mi_ok x) → Q1 w h2 → me_E (d + 33) 12 14 [some (.inr (.inr 51)), none] (mi_back w []) h2 Q)) : me_E (d + 33) 12 7 [some (.inr (.inr 51)), none] [] h Q := ms_cmB_0 hS (fun h1 W => (k0) h1 W.1 (W.2.2.2.2.2 _ rfl))
set_option maxRecDepth 20000 in
theorem mp_cmC_0 (h : sm_H) (d : Nat) : mj_path [(12, (2, 1, sb_12))] sx_sk h 2 [] (d + 33, 12, 14, [some (.inr (.inr 51)), none], [], [], []) = some ((d + 33, 12, 18, [some (.inr (.inr 51)), none], [.inr (.inr 76)], [], []), []) := rfl
theorem mi_tab_cmC_0 : ∀ e ∈ ([(12, (2, 1, sb_12))] : mi_T), sc_P e.1 = some e.2 := mi_tb mi_P12 (mi_tb_e)
set_option maxRecDepth 20000 in
theorem ms_cmC_0 {h : sm_H} {d : Nat} {Q : Option mi_V → sm_H → Prop} (hS : ab_Sh sx_sk h)  (kon : ∀ h1, me_W [] h h1 → ∃ Q1, me_E (d + 32) 14 0 (mi_entry 3 [.inr (.inr 76)]) [] h1 Q1 ∧ ∀ w h2, (∀ x, w = some x → mi_ok x) → Q1 w h2 → me_E (d + 33) 12 21 [some (.inr (.inr 51)), none] (mi_back w []) h2 Q) : me_E (d + 33) 12 14 [some (.inr (.inr 51)), none] [] h Q := mf_seg (mp_cmC_0 h d ) (mi_tab_cmC_0) hS (mi_okL_c (trivial) (mi_okL_n (mi_okL_e))) (mi_okS_e) (mi_al_e) (fun h1 W _ hst => let ⟨_, k1, k2⟩ := kon h1 W; mf_call (M := (2, 1, sb_12)) (M' := (3, 1, sb_14)) rfl rfl rfl rfl (Nat.le_of_ble_eq_true rfl) (Nat.le_of_ble_eq_true rfl) W.1 k1 k2)
set_option maxRecDepth 20000 in
theorem mt_cmC {h : sm_H} {d : Nat} {Q : Option mi_V → sm_H → Prop} (hS : ab_Sh sx_sk h)  (k0 : (∀ h1, ab_Sh sx_sk h1 → ab_Fr [] h h1 → ∃ Q1, me_E (d + 32) 14 0 (mi_entry 3 [.inr (.inr 76)]) [] h1 Q1 ∧ ∀ w h2, (∀ x, w = some x → mi_ok x) → Q1 w h2 → me_E (d + 33) 12 21 [some (.inr (.inr 51)), none] (mi_back w []) h2 Q)) : me_E (d + 33) 12 14 [some (.inr (.inr 51)), none] [] h Q := ms_cmC_0 hS (fun h1 W => (k0) h1 W.1 (W.2.2.2.2.2 _ rfl))
set_option maxRecDepth 20000 in
theorem mp_cmD_0 (h : sm_H) (d : Nat) (zz : Int) : mj_path [(12, (2, 1, sb_12))] sx_sk h 9 [1, 1] (d + 33, 12, 21, [some (.inr (.inr 51)), none], [.inl (zz)], [], []) = some ((d + 33, 12, 57, [some (.inr (.inr 51)), some (.inl (zz))], [], [.inl (6542, (0 : Int))], []), [zz ≠ ((0 : Int)), 0 ≤ ((0 : Int)) ∧ ((0 : Int)) ≤ 1, 0 ≤ ((0 : Int)) ∧ ((0 : Int)) ≤ 1, ((0 : Int)) = ((0 : Int))]) := rfl
theorem mi_tab_cmD_0 : ∀ e ∈ ([(12, (2, 1, sb_12))] : mi_T), sc_P e.1 = some e.2 := mi_tb mi_P12 (mi_tb_e)
set_option maxRecDepth 20000 in
theorem ms_cmD_0 {h : sm_H} {d : Nat} {Q : Option mi_V → sm_H → Prop} {zz : Int} (hS : ab_Sh sx_sk h) (ok_zz : mi_in zz) (ho : (zz ≠ ((0 : Int))) ∧ (0 ≤ ((0 : Int)) ∧ ((0 : Int)) ≤ 1) ∧ (0 ≤ ((0 : Int)) ∧ ((0 : Int)) ≤ 1) ∧ (((0 : Int)) = ((0 : Int)))) (kon : ∀ h1, me_W [.inl (6542, (0 : Int))] h h1 → me_E (d + 33) 12 57 [some (.inr (.inr 51)), some (.inl (zz))] [] h1 Q) : me_E (d + 33) 12 21 [some (.inr (.inr 51)), none] [.inl (zz)] h Q := mf_seg (mp_cmD_0 h d zz) (mi_tab_cmD_0) hS (mi_okL_c (trivial) (mi_okL_n (mi_okL_e))) (mi_okS_cons (ok_zz) (mi_okS_e)) (mi_al (ho.1) (mi_al (ho.2.1) (mi_al (ho.2.2.1) (mi_al (ho.2.2.2) (mi_al_e))))) (fun h1 W _ hst => kon h1 W)
set_option maxRecDepth 20000 in
theorem mp_cmD_1 (h : sm_H) (d : Nat) (zz : Int) : mj_path [(12, (2, 1, sb_12))] sx_sk h 12 [0, 0] (d + 33, 12, 21, [some (.inr (.inr 51)), none], [.inl (zz)], [], []) = some ((d + 33, 12, 46, [some (.inr (.inr 51)), some (.inl (zz))], [.inr (.inr 78)], [.inl (6542, (1 : Int))], []), [zz = ((0 : Int)), 0 ≤ ((1 : Int)) ∧ ((1 : Int)) ≤ 1, 0 ≤ ((1 : Int)) ∧ ((1 : Int)) ≤ 1, ((1 : Int)) ≠ ((0 : Int))]) := rfl
theorem mi_tab_cmD_1 : ∀ e ∈ ([(12, (2, 1, sb_12))] : mi_T), sc_P e.1 = some e.2 := mi_tb mi_P12 (mi_tb_e)
set_option maxRecDepth 20000 in
theorem ms_cmD_1 {h : sm_H} {d : Nat} {Q : Option mi_V → sm_H → Prop} {zz : Int} (hS : ab_Sh sx_sk h) (ok_zz : mi_in zz) (ho : (zz = ((0 : Int))) ∧ (0 ≤ ((1 : Int)) ∧ ((1 : Int)) ≤ 1) ∧ (0 ≤ ((1 : Int)) ∧ ((1 : Int)) ≤ 1) ∧ (((1 : Int)) ≠ ((0 : Int)))) (kon : ∀ h1, me_W [.inl (6542, (1 : Int))] h h1 → ∃ Q1, me_E (d + 32) 65 0 (mi_entry 2 [.inr (.inr 78)]) [] h1 Q1 ∧ ∀ w h2, (∀ x, w = some x → mi_ok x) → Q1 w h2 → me_E (d + 33) 12 49 [some (.inr (.inr 51)), some (.inl (zz))] (mi_back w []) h2 Q) : me_E (d + 33) 12 21 [some (.inr (.inr 51)), none] [.inl (zz)] h Q := mf_seg (mp_cmD_1 h d zz) (mi_tab_cmD_1) hS (mi_okL_c (trivial) (mi_okL_n (mi_okL_e))) (mi_okS_cons (ok_zz) (mi_okS_e)) (mi_al (ho.1) (mi_al (ho.2.1) (mi_al (ho.2.2.1) (mi_al (ho.2.2.2) (mi_al_e))))) (fun h1 W _ hst => let ⟨_, k1, k2⟩ := kon h1 W; mf_call (M := (2, 1, sb_12)) (M' := (2, 0, sb_65)) rfl rfl rfl rfl (Nat.le_of_ble_eq_true rfl) (Nat.le_of_ble_eq_true rfl) W.1 k1 k2)
set_option maxRecDepth 20000 in
theorem mt_cmD {h : sm_H} {d : Nat} {Q : Option mi_V → sm_H → Prop} {zz : Int} (hS : ab_Sh sx_sk h) (ok_zz : mi_in zz) (k0 : (zz ≠ ((0 : Int))) → (∀ h1, ab_Sh sx_sk h1 → mi_f h1 6542 = (0 : Int) → ab_Fr [(6542, 6543)] h h1 → me_E (d + 33) 12 57 [some (.inr (.inr 51)), some (.inl (zz))] [] h1 Q)) (k1 : (zz = ((0 : Int))) → (∀ h1, ab_Sh sx_sk h1 → mi_f h1 6542 = (1 : Int) → ab_Fr [(6542, 6543)] h h1 → ∃ Q1, me_E (d + 32) 65 0 (mi_entry 2 [.inr (.inr 78)]) [] h1 Q1 ∧ ∀ w h2, (∀ x, w = some x → mi_ok x) → Q1 w h2 → me_E (d + 33) 12 49 [some (.inr (.inr 51)), some (.inl (zz))] (mi_back w []) h2 Q)) : me_E (d + 33) 12 21 [some (.inr (.inr 51)), none] [.inl (zz)] h Q := Or.elim (mi_em .ne (zz) (((0 : Int)))) (fun c0 => ms_cmD_0 hS ok_zz ⟨c0, (by decide), (by decide), (by decide)⟩ (fun h1 W => (k0 c0) h1 W.1 (W.2.1 6542) (W.2.2.2.2.2 _ rfl))) (fun c0 => ms_cmD_1 hS ok_zz ⟨c0, (by decide), (by decide), (by decide)⟩ (fun h1 W => (k1 c0) h1 W.1 (W.2.1 6542) (W.2.2.2.2.2 _ rfl)))
set_option maxRecDepth 20000 in
theorem mp_cmE_0 (h : sm_H) (d : Nat) (zz : Int) : mj_path [(12, (2, 1, sb_12))] sx_sk h 2 [] (d + 33, 12, 49, [some (.inr (.inr 51)), some (.inl (zz))], [], [], []) = some ((d + 33, 12, 53, [some (.inr (.inr 51)), some (.inl (zz))], [.inr (.inr 93)], [], []), []) := rfl
theorem mi_tab_cmE_0 : ∀ e ∈ ([(12, (2, 1, sb_12))] : mi_T), sc_P e.1 = some e.2 := mi_tb mi_P12 (mi_tb_e)
set_option maxRecDepth 20000 in
theorem ms_cmE_0 {h : sm_H} {d : Nat} {Q : Option mi_V → sm_H → Prop} {zz : Int} (hS : ab_Sh sx_sk h) (ok_zz : mi_in zz) (kon : ∀ h1, me_W [] h h1 → ∃ Q1, me_E (d + 32) 82 0 (mi_entry 2 [.inr (.inr 93)]) [] h1 Q1 ∧ ∀ w h2, (∀ x, w = some x → mi_ok x) → Q1 w h2 → me_E (d + 33) 12 56 [some (.inr (.inr 51)), some (.inl (zz))] (mi_back w []) h2 Q) : me_E (d + 33) 12 49 [some (.inr (.inr 51)), some (.inl (zz))] [] h Q := mf_seg (mp_cmE_0 h d zz) (mi_tab_cmE_0) hS (mi_okL_c (trivial) (mi_okL_c (ok_zz) (mi_okL_e))) (mi_okS_e) (mi_al_e) (fun h1 W _ hst => let ⟨_, k1, k2⟩ := kon h1 W; mf_call (M := (2, 1, sb_12)) (M' := (2, 1, sb_82)) rfl rfl rfl rfl (Nat.le_of_ble_eq_true rfl) (Nat.le_of_ble_eq_true rfl) W.1 k1 k2)
set_option maxRecDepth 20000 in
theorem mt_cmE {h : sm_H} {d : Nat} {Q : Option mi_V → sm_H → Prop} {zz : Int} (hS : ab_Sh sx_sk h) (ok_zz : mi_in zz) (k0 : (∀ h1, ab_Sh sx_sk h1 → ab_Fr [] h h1 → ∃ Q1, me_E (d + 32) 82 0 (mi_entry 2 [.inr (.inr 93)]) [] h1 Q1 ∧ ∀ w h2, (∀ x, w = some x → mi_ok x) → Q1 w h2 → me_E (d + 33) 12 56 [some (.inr (.inr 51)), some (.inl (zz))] (mi_back w []) h2 Q)) : me_E (d + 33) 12 49 [some (.inr (.inr 51)), some (.inl (zz))] [] h Q := ms_cmE_0 hS ok_zz (fun h1 W => (k0) h1 W.1 (W.2.2.2.2.2 _ rfl))
set_option maxRecDepth 20000 in
theorem mp_cmF_0 (h : sm_H) (d : Nat) (zz zy : Int) : mj_path [(12, (2, 1, sb_12))] sx_sk h 1 [] (d + 33, 12, 56, [some (.inr (.inr 51)), some (.inl (zz))], [.inl (zy)], [], []) = some ((d + 33, 12, 57, [some (.inr (.inr 51)), some (.inl (zy))], [], [], []), []) := rfl
theorem mi_tab_cmF_0 : ∀ e ∈ ([(12, (2, 1, sb_12))] : mi_T), sc_P e.1 = some e.2 := mi_tb mi_P12 (mi_tb_e)
set_option maxRecDepth 20000 in
theorem ms_cmF_0 {h : sm_H} {d : Nat} {Q : Option mi_V → sm_H → Prop} {zz zy : Int} (hS : ab_Sh sx_sk h) (ok_zz : mi_in zz) (ok_zy : mi_in zy) (kon : ∀ h1, me_W [] h h1 → me_E (d + 33) 12 57 [some (.inr (.inr 51)), some (.inl (zy))] [] h1 Q) : me_E (d + 33) 12 56 [some (.inr (.inr 51)), some (.inl (zz))] [.inl (zy)] h Q := mf_seg (mp_cmF_0 h d zz zy) (mi_tab_cmF_0) hS (mi_okL_c (trivial) (mi_okL_c (ok_zz) (mi_okL_e))) (mi_okS_cons (ok_zy) (mi_okS_e)) (mi_al_e) (fun h1 W _ hst => kon h1 W)
set_option maxRecDepth 20000 in
theorem mt_cmF {h : sm_H} {d : Nat} {Q : Option mi_V → sm_H → Prop} {zz zy : Int} (hS : ab_Sh sx_sk h) (ok_zz : mi_in zz) (ok_zy : mi_in zy) (k0 : (∀ h1, ab_Sh sx_sk h1 → ab_Fr [] h h1 → me_E (d + 33) 12 57 [some (.inr (.inr 51)), some (.inl (zy))] [] h1 Q)) : me_E (d + 33) 12 56 [some (.inr (.inr 51)), some (.inl (zz))] [.inl (zy)] h Q := ms_cmF_0 hS ok_zz ok_zy (fun h1 W => (k0) h1 W.1 (W.2.2.2.2.2 _ rfl))
set_option maxRecDepth 20000 in
theorem mp_cmG_0 (h : sm_H) (d : Nat) (zz : Int) : mj_path [(12, (2, 1, sb_12))] sx_sk h 6 [1] (d + 33, 12, 57, [some (.inr (.inr 51)), some (.inl (zz))], [], [], []) = some ((d + 33, 12, 71, [some (.inr (.inr 51)), some (.inl (zz))], [.inl (zz)], [.inl (6543, (0 : Int))], []), [zz ≠ ((0 : Int)), 0 ≤ ((0 : Int)) ∧ ((0 : Int)) ≤ 1, 0 ≤ ((0 : Int)) ∧ ((0 : Int)) ≤ 1]) := rfl
theorem mi_tab_cmG_0 : ∀ e ∈ ([(12, (2, 1, sb_12))] : mi_T), sc_P e.1 = some e.2 := mi_tb mi_P12 (mi_tb_e)
set_option maxRecDepth 20000 in
theorem ms_cmG_0 {h : sm_H} {d : Nat} {Q : Option mi_V → sm_H → Prop} {zz : Int} (hS : ab_Sh sx_sk h) (ok_zz : mi_in zz) (ho : (zz ≠ ((0 : Int))) ∧ (0 ≤ ((0 : Int)) ∧ ((0 : Int)) ≤ 1) ∧ (0 ≤ ((0 : Int)) ∧ ((0 : Int)) ≤ 1)) (kon : ∀ h1, me_W [.inl (6543, (0 : Int))] h h1 → Q (some (.inl (zz))) h1) : me_E (d + 33) 12 57 [some (.inr (.inr 51)), some (.inl (zz))] [] h Q := mf_seg (mp_cmG_0 h d zz) (mi_tab_cmG_0) hS (mi_okL_c (trivial) (mi_okL_c (ok_zz) (mi_okL_e))) (mi_okS_e) (mi_al (ho.1) (mi_al (ho.2.1) (mi_al (ho.2.2) (mi_al_e)))) (fun h1 W _ hst => mf_ret (M := (2, 1, sb_12)) rfl rfl rfl hst (mi_al_e) (kon h1 W))
set_option maxRecDepth 20000 in
theorem mp_cmG_1 (h : sm_H) (d : Nat) (zz : Int) : mj_path [(12, (2, 1, sb_12))] sx_sk h 7 [0] (d + 33, 12, 57, [some (.inr (.inr 51)), some (.inl (zz))], [], [], []) = some ((d + 33, 12, 71, [some (.inr (.inr 51)), some (.inl (zz))], [.inl (zz)], [.inl (6543, (1 : Int))], []), [zz = ((0 : Int)), 0 ≤ ((1 : Int)) ∧ ((1 : Int)) ≤ 1, 0 ≤ ((1 : Int)) ∧ ((1 : Int)) ≤ 1]) := rfl
theorem mi_tab_cmG_1 : ∀ e ∈ ([(12, (2, 1, sb_12))] : mi_T), sc_P e.1 = some e.2 := mi_tb mi_P12 (mi_tb_e)
set_option maxRecDepth 20000 in
theorem ms_cmG_1 {h : sm_H} {d : Nat} {Q : Option mi_V → sm_H → Prop} {zz : Int} (hS : ab_Sh sx_sk h) (ok_zz : mi_in zz) (ho : (zz = ((0 : Int))) ∧ (0 ≤ ((1 : Int)) ∧ ((1 : Int)) ≤ 1) ∧ (0 ≤ ((1 : Int)) ∧ ((1 : Int)) ≤ 1)) (kon : ∀ h1, me_W [.inl (6543, (1 : Int))] h h1 → Q (some (.inl (zz))) h1) : me_E (d + 33) 12 57 [some (.inr (.inr 51)), some (.inl (zz))] [] h Q := mf_seg (mp_cmG_1 h d zz) (mi_tab_cmG_1) hS (mi_okL_c (trivial) (mi_okL_c (ok_zz) (mi_okL_e))) (mi_okS_e) (mi_al (ho.1) (mi_al (ho.2.1) (mi_al (ho.2.2) (mi_al_e)))) (fun h1 W _ hst => mf_ret (M := (2, 1, sb_12)) rfl rfl rfl hst (mi_al_e) (kon h1 W))
set_option maxRecDepth 20000 in
theorem mt_cmG {h : sm_H} {d : Nat} {Q : Option mi_V → sm_H → Prop} {zz : Int} (hS : ab_Sh sx_sk h) (ok_zz : mi_in zz) (k0 : (zz ≠ ((0 : Int))) → (∀ h1, ab_Sh sx_sk h1 → mi_f h1 6543 = (0 : Int) → ab_Fr [(6543, 6544)] h h1 → Q (some (.inl (zz))) h1)) (k1 : (zz = ((0 : Int))) → (∀ h1, ab_Sh sx_sk h1 → mi_f h1 6543 = (1 : Int) → ab_Fr [(6543, 6544)] h h1 → Q (some (.inl (zz))) h1)) : me_E (d + 33) 12 57 [some (.inr (.inr 51)), some (.inl (zz))] [] h Q := Or.elim (mi_em .ne (zz) (((0 : Int)))) (fun c0 => ms_cmG_0 hS ok_zz ⟨c0, (by decide), (by decide)⟩ (fun h1 W => (k0 c0) h1 W.1 (W.2.1 6543) (W.2.2.2.2.2 _ rfl))) (fun c0 => ms_cmG_1 hS ok_zz ⟨c0, (by decide), (by decide)⟩ (fun h1 W => (k1 c0) h1 W.1 (W.2.1 6543) (W.2.2.2.2.2 _ rfl)))
/-! the reference's read leaves the texts as they were -/
def mr_W : List (Nat × Nat) := [(13952, 13953), (13954, 14080), (14081, 21889)]
def rd_Qf (h : sm_H) (w : Option mi_V) (h' : sm_H) : Prop := w = none ∧ ab_Sh sx_sk h' ∧ ab_Fr mr_W h h' ∧ (mi_f h' 13960 ≤ 0 → ∃ Y, sy_L h' Y ∧ wk_Lrule Y (mi_a h' 114 0))
def rd_Okf : Prop := ∀ h, ab_Sh sx_sk h → me_E 59 176 0 [some (.inr (.inr 109)), none, none] [] h (rd_Qf h)
section REA
variable {h0 h : sm_H}
/-- the last loop: over the uses -/
def re_Uf (h0 h : sm_H) (zt : Int) : Prop := ab_Sh sx_sk h ∧ ab_Fr mr_W h0 h ∧ 0 ≤ mi_f h 13960 ∧ (mi_f h 13960 = 0 → 1 ≤ mi_f h 13961 ∧ (∃ Y z, rs_B h Y z 0) ∧ ∀ u, 0 ≤ u → u < zt → u < mi_f h 13963 → mi_a h 119 u.toNat = 9 → 0 ≤ mi_a h 115 (mi_a h 120 u.toNat).toNat)
theorem re117f : ∀ (N : Nat) (zm zt : Int) (h : sm_H), 60 - zt < N → 0 ≤ zt → zt ≤ 60 → mi_in zm → re_Uf h0 h zt → me_E 59 176 117 [some (.inr (.inr 109)), some (.inl zm), some (.inl zt)] [] h (rd_Qf h0) := by
  intro N
  induction N with
  | zero => intro zm zt h hN t0 t1; exfalso; omega
  | succ N ih =>
    intro zm zt h hN t0 t1 om hH
    obtain ⟨s1, s2, s3, s4⟩ := hH
    have ot : mi_in zt := ⟨by omega, by omega⟩
    refine mt_reF (d := 43) s1 om ot ?_ ?_ ?_ ?_ ?_
    · intro b c h1 g1 g2
      have e := me_nil g2
      subst e
      refine ⟨rfl, s1, s2, fun x => ?_⟩
      obtain ⟨y1, ⟨Y, z, y2⟩, y3⟩ := s4 (by omega)
      exact re_end y2 s1 y1 (fun u x0 x1 x9 => y3 u x0 (by omega) x1 x9)
    · intro b b2 c c2 h1 g1 g2
      have e := me_nil g2
      subst e
      exact ⟨rfl, s1, s2, fun x => by omega⟩
    · intro b b2 c c2 c3
      refine ⟨⟨⟨by omega, by omega⟩, ⟨by omega, by omega⟩⟩, fun h1 g1 g2 => ?_⟩
      have e := me_nil g2
      subst e
      refine ih zm (zt + 1) h1 (by omega) (by omega) (by omega) om ⟨s1, s2, s3, fun x => ?_⟩
      obtain ⟨y1, y2, y3⟩ := s4 x
      refine ⟨y1, y2, fun u x0 x1 x2 x9 => ?_⟩
      by_cases e : u = zt
      · rw [e] at x9
        exact absurd x9 c3
      · exact y3 u x0 (by omega) x2 x9
    · intro b b2 c c2 c3 c4
      obtain ⟨y1, ⟨Y, z, y2⟩, y3⟩ := s4 c2
      have w4 := (y2.1.2.1 zt t0 (by have := y2.2.1; omega)).2.2.2.1 c3
      refine ⟨⟨⟨by omega, by omega⟩, w4, ⟨by omega, by omega⟩⟩, fun h1 g1 g2 => ?_⟩
      have e := me_nil g2
      subst e
      refine ih zm (zt + 1) h1 (by omega) (by omega) (by omega) om ⟨s1, s2, s3, fun x => ⟨y1, ⟨Y, z, y2⟩, fun u x0 x1 x2 x9 => ?_⟩⟩
      by_cases e : u = zt
      · rw [e]
        exact c4
      · exact y3 u x0 (by omega) x2 x9
    · intro b b2 c c2 c3 c4
      obtain ⟨y1, ⟨Y, z, y2⟩, y3⟩ := s4 c2
      have w4 := (y2.1.2.1 zt t0 (by have := y2.2.1; omega)).2.2.2.1 c3
      have w5 := y2.2.2.2.2.2.2.1.2.2 zt t0 c
      refine ⟨⟨⟨by omega, by omega⟩, w4⟩, fun h1 g1 g2 => ?_⟩
      have e := me_nil g2
      subst e
      refine ⟨_, me_blame (d := 58) s1 (by decide) (by decide) (by omega) (by omega) (by omega), fun w h2 oww hq => ?_⟩
      obtain ⟨rfl, v1, v2, v3⟩ := hq
      refine mt_reG (d := 43) v1 om ot ⟨⟨by omega, by omega⟩, fun h3 g1 g2 => ?_⟩
      have e := me_nil g2
      subst e
      exact ih zm (zt + 1) h3 (by omega) (by omega) (by omega) om ⟨v1, s2.trans (v2.wide (fun c hc => ab_swr_ok (by decide) hc)), by omega, fun x => by omega⟩
/-- the loop over the rules -/
def re_Hf (h0 h : sm_H) (zm zt : Int) : Prop := ab_Sh sx_sk h ∧ ab_Fr mr_W h0 h ∧ 0 ≤ mi_f h 13960 ∧ (mi_f h 13960 = 0 → (zm ≠ 0 → mi_f h 14000 ≤ 241) ∧ (1 ≤ mi_f h 13961 ∨ (zt = 0 ∧ zm ≠ 0)) ∧ ∃ Y z, rs_B h Y z 0)
theorem re60f : ∀ (N : Nat) (zm zt : Int) (h : sm_H), 12 - zt < N → 0 ≤ zt → zt ≤ 12 → mi_in zm → re_Hf h0 h zm zt → me_E 59 176 60 [some (.inr (.inr 109)), some (.inl zm), some (.inl zt)] [] h (rd_Qf h0) := by
  intro N
  induction N with
  | zero => intro zm zt h hN t0 t1; exfalso; omega
  | succ N ih =>
    intro zm zt h hN t0 t1 om hH
    obtain ⟨s1, s2, s3, s4⟩ := hH
    have ot : mi_in zt := ⟨by omega, by omega⟩
    have fin : (mi_f h 13960 = 0 → 1 ≤ mi_f h 13961) → ∀ h1, ab_Sh sx_sk h1 → ab_Fr [] h h1 → me_E 59 176 117 [some (.inr (.inr 109)), some (.inl zm), some (.inl 0)] [] h1 (rd_Qf h0) := fun hr h1 g1 g2 => by
      have e := me_nil g2
      subst e
      refine re117f 62 zm 0 h1 (by decide) (by decide) (by decide) om ⟨s1, s2, s3, fun x => ?_⟩
      obtain ⟨y1, y2, y3⟩ := s4 x
      exact ⟨hr x, y3, fun u x0 x1 => by omega⟩
    refine mt_reC (d := 43) s1 om ot ?_ ?_ ?_ ?_
    · intro c
      exact fin (fun x => by obtain ⟨y1, y2, y3⟩ := s4 x; omega)
    · intro c c2
      exact fin (fun x => by obtain ⟨y1, y2, y3⟩ := s4 x; omega)
    · intro b c c2 c3
      exact fin (fun x => by omega)
    · intro b c c2 c3 h1 g1 g2
      have e := me_nil g2
      subst e
      obtain ⟨y1, y2, Y, z, y3⟩ := s4 c3
      refine ⟨_, me_scan (d := 56) s1 (y1 c2), fun w h2 oww hq => ?_⟩
      obtain ⟨rfl, r1, r2, r3⟩ := hq
      have ef : mi_f h2 13960 = 0 := (me_f (c := 13960) r2 s1 rfl rfl).trans c3
      have F2 : ab_Fr mr_W h0 h2 := s2.trans (r2.wide (fun c hc => ab_swr_ok (by decide) hc))
      have B2 := rs_Bfr y3 s1 r2 (by decide)
      have ru : ∃ Q1, me_E 58 183 0 (mi_entry 3 [.inr (.inr 109)]) [] h2 Q1 ∧ ∀ w h3, (∀ x, w = some x → mi_ok x) → Q1 w h3 → me_E 59 176 109 [some (.inr (.inr 109)), some (.inl 1), some (.inl zt)] (mi_back w []) h3 (rd_Qf h0) := by
        refine ⟨_, me_rule (d := 44) B2 r1 ef r3, fun w h3 oww hq => ?_⟩
        obtain ⟨rfl, v1, v2, v3, v4⟩ := hq
        refine mt_reE (d := 43) v1 fm_in1 ot ⟨⟨by omega, by omega⟩, fun h4 g1 g2 => ?_⟩
        have e := me_nil g2
        subst e
        refine ih 1 (zt + 1) h4 (by omega) (by omega) (by omega) fm_in1 ⟨v1, F2.trans (v2.wide (fun c hc => ab_swr_ok (by decide) hc)), v3, fun x => ?_⟩
        obtain ⟨x1, x2, x3⟩ := v4 x
        exact ⟨fun _ => x1, Or.inl x2, x3⟩
      refine mt_reD (d := 43) r1 om ot ?_ ?_ ?_
      · intro b c h3 g1 g2
        have e := me_nil g2
        subst e
        exact ru
      · intro b b2 c4 c5
        refine ⟨⟨by omega, by omega⟩, fun h3 g1 g2 => ?_⟩
        have e := me_nil g2
        subst e
        exact ih 0 (zt + 1) h3 (by omega) (by omega) (by omega) fm_in0 ⟨r1, F2, by omega, fun _ => ⟨fun x => absurd rfl x, Or.inl (by omega), Y, z, B2⟩⟩
      · intro b b2 c4 c5 h3 g1 g2
        have e := me_nil g2
        subst e
        exact ru
def re_Af (h0 h : sm_H) (zk : Int) : Prop := ab_Sh sx_sk h ∧ ab_Fr mr_W h0 h ∧ (mi_f h 13960 = 0 ∧ mi_f h 13961 = 0 ∧ mi_f h 13963 = 0 ∧ mi_f h 13964 = 0 ∧ mi_f h 13965 = 0 ∧ mi_f h 14000 = 0) ∧ ∀ n : Nat, (n : Int) < zk → mi_a h 115 n = -1
theorem re37f : ∀ (N : Nat) (zk : Int) (h : sm_H), 26 - zk < N → 0 ≤ zk → zk ≤ 26 → re_Af h0 h zk → me_E 59 176 37 [some (.inr (.inr 109)), some (.inl zk), none] [] h (rd_Qf h0) := by
  intro N
  induction N with
  | zero => intro zk h hN t0 t1; exfalso; omega
  | succ N ih =>
    intro zk h hN t0 t1 hH
    obtain ⟨s1, s2, ⟨a1, a2, a3, a4, a5, a6⟩, s4⟩ := hH
    have ok : mi_in zk := ⟨by omega, by omega⟩
    refine mt_reB (d := 43) s1 ok ?_ ?_
    · intro c h1 g1 g2
      have e := me_nil g2
      subst e
      refine re60f 14 1 0 h1 (by decide) (by decide) (by decide) fm_in1 ⟨s1, s2, by omega, fun _ => ⟨fun _ => by omega, Or.inr ⟨rfl, by decide⟩, re_Y0, re_Z0, re_I0 _, ?_, ?_, ?_, by omega, by omega, ⟨fun r x0 x1 => by omega, fun n hn => ?_, fun u x0 x1 => by omega⟩, fun f x0 x1 => by omega⟩⟩
      · show (0 : Int) = _
        omega
      · show (0 : Int) = _
        omega
      · show (0 : Int) = _
        omega
      · rw [s4 n (by omega)]
        omega
    · intro c
      refine ⟨⟨⟨by omega, by omega⟩, ⟨by omega, by omega⟩⟩, fun h1 g1 g2 g3 => ?_⟩
      refine ih (zk + 1) h1 (by omega) (by omega) (by omega) ⟨g1, s2.trans (g3.wide (fun c hc => ab_swr_ok (by decide) hc)), ⟨?_, ?_, ?_, ?_, ?_, ?_⟩, fun n hn => ?_⟩
      · rw [me_f (c := 13960) g3 s1 rfl rfl, a1]
      · rw [me_f (c := 13961) g3 s1 rfl rfl, a2]
      · rw [me_f (c := 13963) g3 s1 rfl rfl, a3]
      · rw [me_f (c := 13964) g3 s1 rfl rfl, a4]
      · rw [me_f (c := 13965) g3 s1 rfl rfl, a5]
      · rw [me_f (c := 14000) g3 s1 rfl rfl, a6]
      · rw [g2]
        by_cases c2 : n = zk.toNat
        · rw [if_pos c2]
        · rw [if_neg c2]
          exact s4 n (by omega)
end REA
theorem rd_okf : rd_Okf := fun h hS => by
  refine mt_reA (d := 43) hS (fun h1 g1 g2 g3 g4 g5 g6 g7 g8 g9 => ?_)
  exact re37f 28 0 h1 (by decide) (by decide) (by decide) ⟨g1, g9.wide (fun c hc => ab_swr_ok (by decide) hc), ⟨g2, g3, g5, g6, g7, g8⟩, fun n hn => by omega⟩
/-! compile, on both sides -/
theorem me_E.all {ι : Type} {d m pc : Nat} {ls : mi_L} {st : List mi_V} {h : sm_H} {Q : ι → Option mi_V → sm_H → Prop} (i0 : ι) (k : ∀ i, me_E d m pc ls st h (Q i)) : me_E d m pc ls st h (fun w h' => ∀ i, Q i w h') := by
  obtain ⟨n, v, h1, r, w, e1, e2, -⟩ := k i0
  refine ⟨n, v, h1, r, w, e1, e2, fun i => ?_⟩
  obtain ⟨n', v', h1', r', w', e1', e2', e3'⟩ := k i
  have := sm_run_same r r'
  injection this with ev eh
  subst eh
  have : w = w' := by
    rw [e1, e1'] at ev
    cases w with
    | none => cases w' with
      | none => rfl
      | some y => cases ev
    | some x => cases w' with
      | none => cases ev
      | some y =>
        have ev2 : some (mi_c x) = some (mi_c y) := ev
        injection ev2 with ev3
        rw [mi_c_inj (e2 x rfl) (e2' y rfl) ev3]
  rw [this]
  exact e3'
/-- some read of the reference -/
def PG (n : Int) (c : Nat → Int) (g0 : wk_g) : Prop := rz_0 g0 ∧ ((∃ f, rz_B n c g0 f) ∨ ∃ g h2 Y, rz_D n c g0 g ∧ rz_U g ∧ RQ g h2 ∧ sy_L h2 Y)
theorem PG_of {h : sm_H} (hS : ab_Sh sx_sk h) : ∃ g0, PG (mi_f h 13953) (mi_a h 110) g0 := by
  have k := (me_readx hS).and (rd_ok h hS)
  obtain ⟨n, v, h1, r, w, e1, e2, ⟨g0, z0, z1, z2, z3⟩, q1, q2, q3, q4⟩ := k
  refine ⟨g0, z0, ?_⟩
  by_cases c : mi_f h1 13960 = 0
  · obtain ⟨-, g, y1, y2, y3⟩ := z2 c
    obtain ⟨Y, l1, -⟩ := q4 (by omega)
    exact Or.inr ⟨g, h1, Y, y1, y2, y3, l1⟩
  · exact Or.inl ⟨_, z3 c⟩
/-- the class's sets are worked out -/
def SC (h : sm_H) : Prop := ∃ (j k : Nat) (W : sp_F), sp_eq 70 (cX h) (sps_k (GC h) 70 j) ∧ sp_fix 70 (GC h) (sps_k (GC h) 70 j) ∧ (∀ i : Nat, i < 70 → W i = if i = 0 then 1 else 0) ∧ (∀ i : Nat, mx_b h 81 i = sk_k (sps_k (GC h) 70 j) (GC h) 70 W k i) ∧ sw_sol (sps_k (GC h) 70 j) 70 (GC h) (sk_k (sps_k (GC h) 70 j) (GC h) 70 W k)
def sc_no (wr : List (Nat × Nat)) : Bool := !([63, 64, 65, 66, 68, 69, 71, 72].any (fun r => ab_in wr (r * 128))) && !(ab_in wr 10112 || ab_in wr 10240 || ab_in wr 10496) && !ab_in wr 10368
theorem SC_fr {h h' : sm_H} {wr : List (Nat × Nat)} (hC : SC h) (hS : ab_Sh sx_sk h) (hF : ab_Fr wr h h') (hw : sc_no wr = true) : SC h' := by
  unfold sc_no at hw
  simp only [Bool.and_eq_true, Bool.not_eq_true'] at hw
  have e := cv_eq_fr hF hS hw.1.1
  have eX := cX_fr hF hS hw.1.2
  unfold SC
  rw [e.g, eX, show mx_b h' 81 = mx_b h 81 from funext fun i => me_b (k := 81) hF hS rfl hw.2]
  exact hC
theorem TC_fr {f : Int → Int} {ow : Nat → Nat} {g : wk_g} {h h' : sm_H} {wr : List (Nat × Nat)} (hC : TC f ow g h) (hS : ab_Sh sx_sk h) (hF : ab_Fr wr h h') (hw : ([63, 64, 65, 66, 68, 69, 71, 72].any (fun r => ab_in wr (r * 128)) || ab_in wr 7680) = false) : TC f ow g h' := by
  simp only [Bool.or_eq_false_iff] at hw
  obtain ⟨e63, e64, e65, e66, e68, e69, e71, e72⟩ := cv_eq_fr hF hS hw.1
  unfold TC
  rw [e63, e64, e65, e66, e68, e69, e71, e72, me_f (c := 7680) hF hS rfl hw.2]
  exact hC
def cm_W : List (Nat × Nat) := [(6542, 6544), (7680, 12545)]
def cm_G (n : Int) (c : Nat → Int) (g0 : wk_g) (h' : sm_H) : Prop := (mi_f h' 6542 = 0 ∧ ∃ f, rz_B n c g0 f) ∨ (mi_f h' 6542 = 1 ∧ SC h' ∧ ∃ f ow g, rz_D n c g0 g ∧ rz_U g ∧ PR ow g ∧ FI f g ∧ TC f ow g h' ∧ PV 240 g ∧ PW g ∧ g 0 1 ≤ g 0 0 ∧ 1 ≤ g 0 3)
def cm_Q (n : Int) (c : Nat → Int) (g0 : wk_g) (h : sm_H) (w : Option mi_V) (h' : sm_H) : Prop := (∃ y, w = some (.inl y) ∧ mi_in y) ∧ ab_Sh sx_sk h' ∧ ab_Fr cm_W h h' ∧ cm_G n c g0 h'
theorem PV_240 {n : Int} {g : wk_g} (h : PV n g) (hn : n ≤ 240) : PV 240 g := ⟨h.1, h.2.1, fun u hu => ⟨⟨((h.2.2 u hu).1).1, by have := (h.2.2 u hu).1; omega⟩, (h.2.2 u hu).2⟩⟩
section CMC
variable {d : Nat} {h : sm_H} {n : Int} {c : Nat → Int} {g0 : wk_g}
theorem me_dropT {k : Int} {cc : ab_C} (hok : ab_Ok sc_P sx_sk cc) (hc : cc = (13, [(3, k, 0, [])], [], [(ab_unk, [])], cc.2.2.2.2.1, 0)) (hk : k = 94 ∨ k = 98) (hS : ab_Sh sx_sk h) : me_E (d + 32) 13 0 (mi_entry 1 [.inr (.inr k.toNat)]) [] h (fun w h' => w = none ∧ ab_Sh sx_sk h' ∧ ab_Fr cc.2.2.2.2.1 h h') := by
  have e1 : cc.1 = 13 := by rw [hc]
  have e2 : cc.2.1 = [(3, k, 0, [])] := by rw [hc]
  have e3 : cc.2.2.1 = [] := by rw [hc]
  have e4 : cc.2.2.2.1 = [(ab_unk, [])] := by rw [hc]
  have e5 : cc.2.2.2.2.2 = 0 := by rw [hc]
  have A := me_abs (M := (1, 0, sb_13)) (as := [.inr (.inr k.toNat)]) hok (by rw [e1]; rfl) hS (by rw [e2]; rcases hk with rfl | rfl <;> exact ⟨rfl, trivial⟩) (by rw [e3]; exact fun e he => by cases he) (by rw [e4]; rfl)
  rw [e1, e5] at A
  refine (me_E.deep (d' := d + 32) A (Nat.zero_le _)).imp (fun w h' hq => ?_)
  obtain ⟨q1, q2, p, hp, q3, -⟩ := hq
  exact ⟨q3, q1, q2⟩
theorem me_compilec (hS : ab_Sh sx_sk h) (hx : cx_ok h) (en : mi_f h 6657 = n) (ec : mi_a h 53 = c) (hG : PG n c g0) : me_E (d + 33) 12 0 [some (.inr (.inr 51)), none] [] h (cm_Q n c g0 h) := by
  have n240 : n ≤ 240 := by have := me_fb (c := 6657) hS rfl; omega
  refine mt_cmA hS (fun h1 g1 g2 => ?_)
  have e0 := me_nil g2
  subst e0
  refine ⟨_, me_dropT (d := d) (k := 94) xo_0 rfl (Or.inl rfl) hS, fun w h2 oww hq => ?_⟩
  obtain ⟨rfl, a1, a2⟩ := hq
  refine mt_cmB a1 (fun h3 g1 g2 => ?_)
  have e0 := me_nil g2
  subst e0
  refine ⟨_, me_dropT (d := d) (k := 98) xo_1 rfl (Or.inr rfl) a1, fun w h4 oww hq => ?_⟩
  obtain ⟨rfl, b1, b2⟩ := hq
  have F4 : ab_Fr cm_W h1 h4 := (a2.wide (fun c hc => ab_swr_ok (by decide) hc)).trans (b2.wide (fun c hc => ab_swr_ok (by decide) hc))
  have e57 : mi_f h4 6657 = n := (me_f (c := 6657) F4 hS rfl rfl).trans en
  have e53 : mi_a h4 53 = c := (funext fun i => me_a (k := 53) F4 hS rfl rfl).trans ec
  have x4 : cx_ok h4 := by
    unfold cx_ok
    rw [e57, e53, ← en, ← ec]
    exact hx
  refine mt_cmC b1 (fun h5 g1 g2 => ?_)
  have e0 := me_nil g2
  subst e0
  refine ⟨_, me_readc (d := d) b1 x4 hG.1 e57 e53, fun w h6 oww hq => ?_⟩
  obtain ⟨rfl, r1, r2, r3, r4⟩ := hq
  have F6 : ab_Fr cm_W h1 h6 := F4.trans (r2.wide (fun c hc => ab_swr_ok (by decide) hc))
  have kr : kF h6 = 0 ↔ mi_f h6 9730 = 0 := by
    unfold kF
    constructor
    · intro q
      by_cases c : mi_f h6 9730 = 0
      · exact c
      · obtain ⟨-, ⟨k1, k2⟩, k3, k4⟩ := r4 c
        omega
    · intro q
      have := (r3 q).1
      omega
  have okk : mi_in (kF h6) := by
    by_cases c : mi_f h6 9730 = 0
    · rw [kr.mpr c]; exact fm_in0
    · obtain ⟨-, ⟨k1, k2⟩, k3, k4⟩ := r4 c
      unfold kF
      exact ⟨by omega, by omega⟩
  have fin : ∀ (z : Int) (h9 : sm_H), mi_in z → ab_Sh sx_sk h9 → ab_Fr cm_W h1 h9 → cm_G n c g0 h9 → me_E (d + 33) 12 57 [some (.inr (.inr 51)), some (.inl z)] [] h9 (cm_Q n c g0 h1) := by
    intro z h9 oz s1 s2 s3
    have go : ∀ h10, ab_Sh sx_sk h10 → ab_Fr [(6543, 6544)] h9 h10 → cm_Q n c g0 h1 (some (.inl z)) h10 := by
      intro h10 t1 t2
      refine ⟨⟨z, rfl, oz⟩, t1, s2.trans (t2.wide (fun c hc => ab_swr_ok (by decide) hc)), ?_⟩
      have e42 : mi_f h10 6542 = mi_f h9 6542 := me_f (c := 6542) t2 s1 rfl rfl
      rcases s3 with ⟨y1, y2⟩ | ⟨y1, y2, f, ow, g, k1, k2, k3, k4, k5, k6⟩
      · exact Or.inl ⟨e42.trans y1, y2⟩
      · exact Or.inr ⟨e42.trans y1, SC_fr y2 s1 t2 (by decide), f, ow, g, k1, k2, k3, k4, TC_fr k5 s1 t2 (by decide), k6⟩
    refine mt_cmG s1 oz ?_ ?_
    · intro c1 h10 t1 t2 t3
      exact go h10 t1 t3
    · intro c1 h10 t1 t2 t3
      exact go h10 t1 t3
  refine mt_cmD r1 okk ?_ ?_
  · intro c1 h7 s1 s2 s3
    have cf : mi_f h6 9730 ≠ 0 := fun q => c1 (kr.mpr q)
    exact fin _ h7 okk s1 (F6.trans (s3.wide (fun c hc => ab_swr_ok (by decide) hc))) (Or.inl ⟨s2, _, (r4 cf).1⟩)
  · intro c1 h7 s1 s2 s3
    have cf : mi_f h6 9730 = 0 := kr.mp c1
    obtain ⟨-, f, ow, g, k1, k2, k3, k4, k5, k6, k7, k8⟩ := r3 cf
    have T6 := TC_of k5
    have T7 := TC_fr T6 r1 s3 (by decide)
    have V := PV_240 k6 n240
    have F7 : ab_Fr cm_W h1 h7 := F6.trans (s3.wide (fun c hc => ab_swr_ok (by decide) hc))
    /- the reference would read the same -/
    obtain ⟨g', h'', Y, p1, p2, p3, p4⟩ : ∃ g h2 Y, rz_D n c g0 g ∧ rz_U g ∧ RQ g h2 ∧ sy_L h2 Y := by
      rcases hG.2 with ⟨f', q⟩ | q
      · exact (rz_xB k1 k2 q).elim
      · exact q
    have eg := rz_DD p1 k1
    subst eg
    have r03 : 1 ≤ g' 0 3 := by
      obtain ⟨j, a', -, -, q⟩ := k1
      have q : g' 0 3 ≠ 0 := q
      have := k3.1.2.2.1
      omega
    have hF := CV_F p3 T7 k3 k4 V k8 k2 p4 k7
    refine ⟨_, me_setsWork (d := d + 25) s1 hF, fun w h8 oww hq => ?_⟩
    obtain ⟨rfl, t1, t2, j, k, W, t3, t4, t5, t6, t7⟩ := hq
    have e8 := cv_eq_fr t2 s1 (by rfl)
    have S8 : SC h8 := by
      refine ⟨j, k, W, ?_, ?_, t5, fun i => ?_, ?_⟩
      · rw [e8.g]; exact t3
      · rw [e8.g]; exact t4
      · rw [e8.g]; exact t6 i
      · rw [e8.g]; exact t7
    have T8 := TC_fr T7 s1 t2 (by decide)
    have F8 : ab_Fr cm_W h1 h8 := F7.trans (t2.wide (fun c hc => ab_swr_ok (by decide) hc))
    have e8' : mi_f h8 6542 = 1 := (me_f (c := 6542) t2 s1 rfl rfl).trans s2
    refine mt_cmE t1 okk (fun h9 g1 g2 => ?_)
    have e0 := me_nil g2
    subst e0
    have A := me_abs (M := (2, 1, sb_82)) (as := [.inr (.inr 93)]) xo_140 rfl t1 ⟨rfl, trivial⟩ (fun e he => by cases he) (by decide)
    refine ⟨_, me_E.deep (d' := d + 32) A (by show 3 ≤ d + 32; omega), fun w h10 oww hq => ?_⟩
    obtain ⟨q1, q2, p, hp, q3, -⟩ := hq
    have q2 : ab_Fr [(11906, 11907)] h9 h10 := q2
    rcases List.mem_cons.mp hp with rfl | hp
    · obtain ⟨y, rfl, y0, y1⟩ := me_resI q3 (by decide) rfl
      refine mt_cmF q1 okk ⟨y0, y1⟩ (fun h11 g1 g2 => ?_)
      have e0 := me_nil g2
      subst e0
      exact fin y h11 ⟨y0, y1⟩ q1 (F8.trans (q2.wide (fun c hc => ab_swr_ok (by decide) hc))) (Or.inr ⟨(me_f (c := 6542) q2 t1 rfl rfl).trans e8', SC_fr S8 t1 q2 (by decide), f, ow, g', k1, k2, k3, k4, TC_fr T8 t1 q2 (by decide), V, k8, k7, r03⟩)
    · cases hp
end CMC
/-- the reference's sets are worked out -/
def SM (h : sm_H) : Prop := ∃ (j k : Nat) (W : sp_F), sp_eq (mi_f h 13965).toNat (rX h) (sr_k (GR (mi_a h)) j) ∧ sp_fix (mi_f h 13965).toNat (GR (mi_a h)) (sr_k (GR (mi_a h)) j) ∧ (∀ i : Nat, (i : Int) < mi_f h 13965 → W i = if (i : Int) = mi_a h 114 0 then 1 else 0) ∧ (∀ i : Nat, mx_b h 138 i = sk_k (sr_k (GR (mi_a h)) j) (GR (mi_a h)) (mi_f h 13965).toNat W k i) ∧ sw_sol (sr_k (GR (mi_a h)) j) (mi_f h 13965).toNat (GR (mi_a h)) (sk_k (sr_k (GR (mi_a h)) j) (GR (mi_a h)) (mi_f h 13965).toNat W k)
def co_G (n : Int) (c : Nat → Int) (g0 : wk_g) (h' : sm_H) : Prop := (mi_f h' 13959 = 0 ∧ ∃ f, rz_B n c g0 f) ∨ (mi_f h' 13959 ≠ 0 ∧ SM h' ∧ ∃ g Y, rz_D n c g0 g ∧ rz_U g ∧ RQ g h' ∧ sy_L h' Y)
def co_Q (h : sm_H) (w : Option mi_V) (h' : sm_H) : Prop := (∃ y, w = some (.inl y) ∧ mi_in y) ∧ ab_Sh sx_sk h' ∧ ab_Fr mr_W h h' ∧ mj_0 h' ∧ ∃ g0, PG (mi_f h 13953) (mi_a h 110) g0 ∧ co_G (mi_f h 13953) (mi_a h 110) g0 h'
/-! the reference's compile, exactly; both together -/
section CMR
variable {h : sm_H}
def sm_no (wr : List (Nat × Nat)) : Bool := !([114, 115, 119, 120, 122, 124, 125, 126, 128, 129, 130].any (fun r => ab_in wr (r * 128))) && !(ab_in wr 17024 || ab_in wr 17408 || ab_in wr 18432) && !(ab_in wr 17664 || ab_in wr 13965)
theorem SM_fr {h' : sm_H} {wr : List (Nat × Nat)} (hC : SM h) (hS : ab_Sh sx_sk h) (hF : ab_Fr wr h h') (hw : sm_no wr = true) : SM h' := by
  unfold sm_no at hw
  simp only [Bool.and_eq_true, Bool.not_eq_true', Bool.or_eq_false_iff] at hw
  have e := rv_eq_fr hF hS hw.1.1
  have eX := rX_fr hF hS (by rw [Bool.or_eq_false_iff, Bool.or_eq_false_iff]; exact hw.1.2)
  unfold SM
  rw [e.g, eX, show mx_b h' 138 = mx_b h 138 from funext fun i => me_b (k := 138) hF hS rfl hw.2.1, me_f (c := 13965) hF hS rfl hw.2.2, e 114 (by decide)]
  exact hC
theorem sy_L_fr2 {h' : sm_H} {Y : wk_Y} {wr : List (Nat × Nat)} (l1 : sy_L h Y) (q1 : ab_Sh sx_sk h) (r5 : ab_Fr wr h h') (hg : wk_gc (mi_a h) (mi_a h')) (w1 : (ab_in wr 13963 || ab_in wr 13965 || ab_in wr 13964 || ab_in wr 13961) = false) : sy_L h' Y := by
  simp only [Bool.or_eq_false_iff] at w1
  obtain ⟨a1, a2, a3, a4, a5⟩ := l1
  unfold sy_L
  rw [me_f (c := 13963) r5 q1 rfl w1.1.1.1, me_f (c := 13965) r5 q1 rfl w1.1.1.2, me_f (c := 13964) r5 q1 rfl w1.1.2, me_f (c := 13961) r5 q1 rfl w1.2]
  refine ⟨wk_L_g a1 hg, a2, a3, fun x h0 h1 => ?_, fun r h0 h1 => ?_⟩
  · rw [hg 126 (by decide)]
    exact a4 x h0 h1
  · rw [hg 114 (by decide)]
    exact a5 r h0 h1
theorem me_compilex (hS : ab_Sh sx_sk h) : me_E 60 175 0 [some (.inr (.inr 109)), none] [] h (co_Q h) := by
  refine mt_coA (d := 40) hS ?_
  intro h1 g1 g2 g3
  refine ⟨_, (me_readx g1).and (rd_okf h1 g1), fun w h2 ow hq => ?_⟩
  obtain ⟨⟨g0, z0, z1, z2, z3⟩, rfl, q1, q2, q3⟩ := hq
  have en : mi_f h1 13953 = mi_f h 13953 := me_f (c := 13953) g3 hS rfl rfl
  have ec : mi_a h1 110 = mi_a h 110 := funext fun i => me_a (k := 110) g3 hS rfl rfl
  rw [en, ec] at z2 z3
  have F2 : ab_Fr mr_W h h2 := (g3.wide (fun c hc => ab_swr_ok (by decide) hc)).trans q2
  refine mt_coB (d := 40) q1 ?_ ?_
  · intro b c h3 r1 r2 r3 r4 r5
    obtain ⟨Y, l1, l2⟩ := q3 c
    obtain ⟨-, g, y1, y2, y3⟩ := z2 (by omega)
    have hPG : PG (mi_f h 13953) (mi_a h 110) g0 := ⟨z0, Or.inr ⟨g, h2, Y, y1, y2, y3, l1⟩⟩
    have hg : wk_gc (mi_a h2) (mi_a h3) := wk_gc_fr r5 q1 rfl
    have l1' : sy_L h3 Y := sy_L_fr2 l1 q1 r5 hg rfl
    have Q3 : RQ g h3 := RQ_same y3 q1 r5 (by decide)
    have W : PW g := by
      obtain ⟨k, a, hk, -⟩ := y1
      exact PW_ruTr k _ (PW_0 z0) hk
    have hA : sy_A h3 := TW_A Q3 W l1'
    refine ⟨_, me_studyx (d := 56) l1' hA r1, fun w h4 ow hq => ?_⟩
    obtain ⟨rfl, s1, s2, j, k, W0, t3, t4, t5, t6, t7⟩ := hq
    have l4 := sy_L_fr l1' r1 s2
    have hg4 : wk_gc (mi_a h2) (mi_a h4) := hg.trans (wk_gc_fr s2 r1 rfl)
    have n4 : mi_f h4 14015 = 0 := (me_f (c := 14015) s2 r1 rfl rfl).trans r3
    have Q4 : RQ g h4 := RQ_same Q3 r1 s2 (by decide)
    have e4 := rv_eq_fr s2 r1 (by rfl)
    have S4 : SM h4 := by
      have e65 : mi_f h4 13965 = mi_f h3 13965 := me_f (c := 13965) s2 r1 rfl rfl
      refine ⟨j, k, W0, ?_, ?_, fun i hi => ?_, fun i => ?_, ?_⟩
      · rw [e4.g, e65]; exact t3
      · rw [e4.g, e65]; exact t4
      · rw [e4 114 (by decide)]; rw [e65] at hi; exact t5 i hi
      · rw [e4.g, e65]; exact t6 i
      · rw [e4.g, e65]; exact t7
    refine mt_coC (d := 40) s1 ?_
    intro h5 t1 t2
    have e := me_nil t2
    subst e
    refine ⟨_, me_check (d := 58) l4 t1, fun w h6 ow hq => ?_⟩
    obtain ⟨e, z, rfl, oz⟩ := hq
    subst e
    have fin : ∀ h7, ab_Sh sx_sk h7 → mi_f h7 13959 ≠ 0 → ab_Fr [(13959, 13960)] h6 h7 → co_Q h (some (.inl z)) h7 := fun h7 u1 un u3 => by
      have hg7 : wk_gc (mi_a h2) (mi_a h7) := hg4.trans (wk_gc_fr u3 t1 rfl)
      refine ⟨⟨z, rfl, oz⟩, u1, ((F2.trans (r5.wide (fun c hc => ab_swr_ok (by decide) hc))).trans (s2.wide (fun c hc => ab_swr_ok (by decide) hc))).trans (u3.wide (fun c hc => ab_swr_ok (by decide) hc)), ⟨fun _ => mj_L_g hg7 ⟨Y, l1.1, l2⟩, fun z => absurd ((me_f (c := 14015) u3 t1 rfl rfl).trans n4) z⟩, g0, hPG, Or.inr ⟨un, SM_fr S4 t1 u3 (by decide), g, Y, y1, y2, RQ_same Q4 t1 u3 (by decide), sy_L_fr2 l4 t1 u3 (wk_gc_fr u3 t1 rfl) rfl⟩⟩
    refine mt_coD (d := 40) t1 oz ?_ ?_
    · intro c h7 u1 u2 u3
      exact fin h7 u1 (by omega) u3
    · intro c h7 u1 u2 u3
      exact fin h7 u1 (by omega) u3
  · intro b c h3 r1 r2 r3 r4 r5 r6 r7
    have B := z3 (by omega)
    exact ⟨⟨_, rfl, mi_inT _⟩, r1, F2.trans (r7.wide (fun c hc => ab_swr_ok (by decide) hc)), ⟨fun z => by exfalso; omega, fun z => absurd r5 z⟩, g0, ⟨z0, Or.inl ⟨_, B⟩⟩, Or.inl ⟨r2, _, B⟩⟩
end CMR
/-! with which uses a form begins: what the reference closes is what the class works out -/
/-- a part before which all may be passed -/
def zP (e : sp_P → Prop) : List sp_P → sp_P → Prop
  | [], _ => False
  | q :: r, p => p = q ∨ (e q ∧ zP e r p)
def zQ (e : sp_P → Prop) (as : List (List sp_P)) (p : sp_P) : Prop := ∃ us, us ∈ as ∧ zP e us p
/-- paths whose places between are below q -/
def wa (E : Nat → Nat → Prop) : Nat → Nat → Nat → Prop
  | 0, r, b => E r b
  | q + 1, r, b => wa E q r b ∨ (wa E q r q ∧ wa E q q b)
section WA
variable {E T : Nat → Nat → Prop}
theorem wa_E {r b : Nat} (h : E r b) : ∀ n, wa E n r b := by
  intro n
  induction n with
  | zero => exact h
  | succ n ih => exact Or.inl ih
theorem wa_tr : ∀ (n q : Nat), q < n → ∀ r b, wa E n r q → wa E n q b → wa E n r b := by
  intro n
  induction n with
  | zero => intro q hq; omega
  | succ n ih =>
    intro q hq r b h1 h2
    by_cases c : q = n
    · subst c
      have k1 : wa E q r q := by
        rcases h1 with h1 | h1
        · exact h1
        · exact h1.1
      have k2 : wa E q q b := by
        rcases h2 with h2 | h2
        · exact h2
        · exact h2.2
      exact Or.inr ⟨k1, k2⟩
    · have hq' : q < n := by omega
      rcases h1 with h1 | ⟨h1, h1'⟩
      · rcases h2 with h2 | ⟨h2, h2'⟩
        · exact Or.inl (ih q hq' r b h1 h2)
        · exact Or.inr ⟨ih q hq' r n h1 h2, h2'⟩
      · rcases h2 with h2 | ⟨h2, h2'⟩
        · exact Or.inr ⟨h1, ih q hq' n b h1' h2⟩
        · exact Or.inr ⟨h1, h2'⟩
theorem wa_least (hE : ∀ r b, E r b → T r b) (hT : ∀ r q b, T r q → T q b → T r b) : ∀ n r b, wa E n r b → T r b := by
  intro n
  induction n with
  | zero => exact hE
  | succ n ih =>
    intro r b h
    rcases h with h | ⟨h, h'⟩
    · exact ih r b h
    · exact hT r n b (ih r n h) (ih n b h')
end WA
/-- closed: as the reference has it, as the class has it -/
def zl_c (e : sp_P → Prop) (bt : sp_P → Nat) (nf : Nat) (G : sg_G) (S : Nat → Nat → Prop) : Prop := ∀ F : Nat, F < nf → ∀ p, zQ e (G F) p → (p.2.1 ≠ 0 → S F (bt p)) ∧ (p.2.1 = 0 → 0 ≤ p.1 → ∀ b, S p.1.toNat b → S F b)
def zb_c (e : sp_P → Prop) (bt : sp_P → Nat) (nf : Nat) (G : sg_G) (S : Nat → Nat → Prop) : Prop := ∀ F : Nat, F < nf → ∀ p, zQ e (G F) p → (p.2.1 ≠ 0 → S F (bt p)) ∧ (0 ≤ p.1 → ∀ b, S p.1.toNat b → S F b)
theorem zz_same {e : sp_P → Prop} {bt : sp_P → Nat} {nf nr : Nat} {G : sg_G} {rf : Nat → Nat} {L B : Nat → Nat → Prop} (hu : ∀ F : Nat, F < nf → ∀ p, zQ e (G F) p → p.2.1 ≠ 0 → 0 ≤ p.1 ∧ p.1.toNat = rf (bt p) ∧ bt p < nr) (hr : ∀ r : Nat, r < nr → rf r < nf) (hf : ∀ F : Nat, F < nf → ∀ p, zQ e (G F) p → 0 ≤ p.1 → p.1.toNat < nf)
    (cL : zl_c e bt nf G L) (lL : ∀ S, zl_c e bt nf G S → ∀ F : Nat, F < nf → ∀ b, L F b → S F b) (cB : zb_c e bt nf G B) (lB : ∀ S, zb_c e bt nf G S → ∀ F : Nat, F < nf → ∀ b, B F b → S F b) : ∀ r : Nat, r < nr → ∀ b, (B (rf r) b ↔ wa (fun r q => L (rf r) q) nr r b) := by
  have bL : ∀ F : Nat, F < nf → ∀ b, L F b → b < nr := lL (fun _ b => b < nr) (fun F hF p hp => ⟨fun hn => (hu F hF p hp hn).2.2, fun _ _ b hb => hb⟩)
  intro r hr' b
  constructor
  · intro hB
    have k := lB (fun F b => L F b ∨ ∃ q, q < nr ∧ L F q ∧ wa (fun r q => L (rf r) q) nr q b) (fun F hF p hp => ⟨fun hn => Or.inl ((cL F hF p hp).1 hn), fun h0 b hb => ?_⟩) (rf r) (hr r hr') b hB
    · rcases k with k | ⟨q, hq, k1, k2⟩
      · exact wa_E (E := fun r q => L (rf r) q) k nr
      · exact wa_tr nr q hq r b (wa_E (E := fun r q => L (rf r) q) k1 nr) k2
    · by_cases c : p.2.1 = 0
      · have m := (cL F hF p hp).2 c h0
        rcases hb with hb | ⟨q, hq, k1, k2⟩
        · exact Or.inl (m b hb)
        · exact Or.inr ⟨q, hq, m q k1, k2⟩
      · obtain ⟨-, e1, e2⟩ := hu F hF p hp c
        have m := (cL F hF p hp).1 c
        have hb : L p.1.toNat b ∨ ∃ q, q < nr ∧ L p.1.toNat q ∧ wa (fun r q => L (rf r) q) nr q b := hb
        rw [e1] at hb
        refine Or.inr ⟨bt p, e2, m, ?_⟩
        rcases hb with hb | ⟨q, hq, k1, k2⟩
        · exact wa_E (E := fun r q => L (rf r) q) hb nr
        · exact wa_tr nr q hq (bt p) b (wa_E (E := fun r q => L (rf r) q) k1 nr) k2
  · intro hW
    have k := lL (fun F q => B F q ∧ ∀ b, B (rf q) b → B F b) (fun F hF p hp => ⟨fun hn => ⟨(cB F hF p hp).1 hn, fun b hb => ?_⟩, fun _ h0 b hb => ⟨(cB F hF p hp).2 h0 b hb.1, fun b' hb' => (cB F hF p hp).2 h0 b' (hb.2 b' hb')⟩⟩)
    · have := wa_least (E := fun r q => L (rf r) q) (T := fun r q => r < nr → B (rf r) q ∧ (∀ b, B (rf q) b → B (rf r) b) ∧ q < nr) (fun r q h hr'' => ⟨(k (rf r) (hr r hr'') q h).1, (k (rf r) (hr r hr'') q h).2, bL (rf r) (hr r hr'') q h⟩) (fun r q b h1 h2 hr'' => ⟨(h1 hr'').2.1 b (h2 (h1 hr'').2.2).1, fun b' hb' => (h1 hr'').2.1 b' ((h2 (h1 hr'').2.2).2.1 b' hb'), (h2 (h1 hr'').2.2).2.2⟩) nr r b hW hr'
      exact this.1
    · obtain ⟨e0, e1, -⟩ := hu F hF p hp hn
      rw [← e1] at hb
      exact (cB F hF p hp).2 e0 b hb
