/-! THE MACHINE OVER INTEGERS, for the class's methods too: lengths of rows, characters, constants, calls on any of the cells -/
/-- steps that mi_step does not know; what is read lies in the cells h behind O -/
def mj_step (sk : ab_K) (q : sm_I) (pc : Nat) (ls : mi_L) (st : List mi_V) (h : sm_H) (O : List mi_U) (b : Nat) : Option mi_R := match q with
  | (i, _, rs) => match i with
    | .arraylength => match st with
      | .inr (.inr a) :: r => match sk[a]? with
        | some (some (.inl (t, n, _, _, _))) => if (sm_ty t).isSome ∧ n < 2147483648 then some (pc + 1, ls, .inl (n : Int) :: r, O, []) else none
        | _ => none
      | _ => none
    | .baload => match st with
      | .inl x :: .inr (.inr a) :: r => match sk[a]? with
        | some (some (.inl (t, n, _, _, _))) => if t = 4 then some (pc + 1, ls, .inl (mi_ra O a x.toNat h) :: r, O, [0 ≤ x ∧ x < (n : Int)]) else none
        | _ => none
      | _ => none
    | .i2b => match st with
      | .inl x :: r => some (pc + 1, ls, .inl x :: r, O, [-128 ≤ x ∧ x ≤ 127])
      | _ => none
    | .getfield _ => match st, rs with
      | .inr (.inr a) :: r, k :: z :: cs => if z ≠ 0 ∧ a < sm_C then (match sk[a]? with
        | some (some (.inr (ci, fl))) => if ci ∈ cs ∧ k < fl.length then (match fl[k]? with
          | some (t, lo, hi) => if t = 2 then some (pc + 3, ls, .inr (.inr lo.toNat) :: r, O, []) else if t = 0 ∧ lo = hi then some (pc + 3, ls, .inl lo :: r, O, []) else none
          | none => none) else none
        | _ => none) else none
      | _, _ => none
    | .caload => mi_ald 2 sk pc ls st h O
    | .ineg => match st with
      | .inl x :: r => some (pc + 1, ls, .inl (-x) :: r, O, [mi_in (-x)])
      | _ => none
    | .ldc _ => match rs with
      | [1, n] => some (pc + 2, ls, .inr (.inr n) :: st, O, [])
      | _ => none
    | .invokestatic _ => match rs with
      | [_, k] => match st with
        | .inl y :: .inl x :: r => if (r.map mi_cat).sum ≤ 8 then (if k = 0 then (if b = 1 then some (pc + 3, ls, .inl y :: r, O, [x < y]) else some (pc + 3, ls, .inl x :: r, O, [y ≤ x])) else (if b = 1 then some (pc + 3, ls, .inl y :: r, O, [y < x]) else some (pc + 3, ls, .inl x :: r, O, [x ≤ y]))) else none
        | _ => none
      | _ => none
    | _ => none
/-- a step at the machine itself -/
def mj_good (sk : ab_K) (q : sm_I) (pc : Nat) (ls : mi_L) (st : List mi_V) (h : sm_H) (O : List mi_U) (R : mi_R) : Prop :=
  sm_step q pc (mi_cl ls) (st.map mi_c) (mi_ap O h) = some (.inl (R.1, mi_cl R.2.1, R.2.2.1.map mi_c, mi_ap R.2.2.2.1 h)) ∧ R.2.2.2.1 = O ∧ mi_okL R.2.1 ∧ mi_okS R.2.2.1
section MJS
variable {sk : ab_K} {h : sm_H} {pc b : Nat} {ls : mi_L} {st : List mi_V} {O : List mi_U}
theorem mj_ak {a t n : Nat} {lo hi : Int} (hk : mo_ak sk a = some (t, n, lo, hi)) : sk[a]? = some (some (.inl (t, n, lo, hi, []))) ∧ sm_C ≤ a := by
  unfold mo_ak at hk
  split at hk
  · next t1 n1 lo1 hi1 ex1 he =>
    split at hk
    · next hc =>
      cases hk
      rw [hc.2] at he
      exact ⟨he, hc.1⟩
    · cases hk
  · cases hk
theorem mj_step_ok {q : sm_I} {R : mi_R} (hs : mj_step sk q pc ls st h O b = some R) (hP : mx_Sp sk h) (hO : mx_oO sk (O.map mi_cU)) (hS : ab_Sh sk (mi_ap O h)) (hl : mi_okL ls) (hst : mi_okS st) (hU : mi_okO O) (ho : ∀ p ∈ R.2.2.2.2, p) : mj_good sk q pc ls st h O R := by
  obtain ⟨i, len, rs⟩ := q
  unfold mj_step at hs
  dsimp only at hs
  split at hs
  · split at hs
    · next a r =>
      split at hs
      · next t n lo hi ex k1 =>
        split at hs
        · next hc =>
          cases hs
          have hh : ∃ c, (mi_ap O h)[a]? = some (.inl (t, n, c)) := by
            obtain ⟨c, e, -⟩ := hS _ _ k1
            exact ⟨c, e⟩
          obtain ⟨c, hh⟩ := hh
          refine ⟨?_, rfl, hl, mi_okS_cons ⟨by omega, by omega⟩ (mi_okS_tl hst)⟩
          simp only [sm_step, List.map_cons, mi_c]
          rw [hh]
          simp only
          rw [if_pos hc.1]
          rfl
        · cases hs
      · cases hs
    · cases hs
  · split at hs
    · next x a r =>
      split at hs
      · next t n lo hi ex k1 =>
        split at hs
        · next ht =>
          cases hs
          subst ht
          obtain ⟨f, hh, -⟩ := mx_arr hS k1 (by decide)
          have hx := mi_okS_hd hst
          have ob : 0 ≤ x ∧ x < (n : Int) := ho _ List.mem_cons_self
          have ef : f x.toNat = Int32.ofInt (mi_ra O a x.toNat h) := by
            have e1 : mx_a (mi_ap O h) a x.toNat = f x.toNat := by
              unfold mx_a
              rw [hh]
            rw [← e1]
            unfold mi_ap
            rw [mx_a_ap hP _ hO, mi_ra_eq]
          refine ⟨?_, rfl, hl, mi_okS_cons (mi_ra_in a x.toNat O hU) (mi_okS_tl (mi_okS_tl hst))⟩
          have hix : sm_ix (Int32.ofInt x) n = true := by
            unfold sm_ix
            rw [decide_eq_true_eq]
            have e1 := mi_ti hx
            have e2 := mi_tn hx
            refine ⟨fun c => ?_, by rw [e2]; omega⟩
            have := Int32.lt_iff_toInt_lt.mp c
            rw [e1] at this
            have e0 : (0 : Int32).toInt = 0 := rfl
            omega
          simp only [sm_step, sm_ald, List.map_cons, mi_c]
          rw [hh]
          simp only
          rw [if_neg (fun c => absurd c.1 (by decide)), if_pos ⟨trivial, hix, Or.inr (Or.inr trivial)⟩, mi_tn hx, ef]
          rfl
        · cases hs
      · cases hs
    · cases hs
  · split at hs
    · next x r =>
      cases hs
      have ob : -128 ≤ x ∧ x ≤ 127 := ho _ List.mem_cons_self
      have hx := mi_okS_hd hst
      refine ⟨?_, rfl, hl, mi_okS_cons hx (mi_okS_tl hst)⟩
      simp only [sm_step, List.map_cons, mi_c]
      have e : (Int32.ofInt x).toInt8.toInt32 = Int32.ofInt x := by
        apply Int32.toInt_inj.mp
        rw [Int8.toInt_toInt32, Int32.toInt_toInt8, mi_ti hx]
        exact Int.bmod_eq_of_le (by omega) (by omega)
      rw [e]
      rfl
    · cases hs
  · split at hs
    · next a r k z cs =>
      split at hs
      · next hz =>
        split at hs
        · next ci fl hk =>
          split at hs
          · next hci =>
            split at hs
            · next t lo hi hf =>
              obtain ⟨fs, hh, hlen, hfv⟩ := mx_obj hS hk
              have hfs : ∃ v, fs[k]? = some v := by
                have : k < fs.length := by omega
                exact ⟨_, List.getElem?_eq_getElem this⟩
              obtain ⟨v, hv⟩ := hfs
              have fv := hfv k _ v hf hv
              split at hs
              · next ht =>
                cases hs
                subst ht
                have fv : v = .ref lo.toNat := fv
                refine ⟨?_, rfl, hl, mi_okS_cons trivial (mi_okS_tl hst)⟩
                simp only [sm_step, sm_getf, List.map_cons, mi_c]
                rw [hh]
                simp only
                rw [if_pos ⟨hci.1, Or.inr ⟨hz.1, hz.2⟩⟩, hv, fv]
                rfl
              · split at hs
                · next ht =>
                  cases hs
                  obtain ⟨rfl, rfl⟩ := ht
                  obtain ⟨x, ex, x0, x1⟩ := fv
                  have ex2 : x = Int32.ofInt lo := by
                    apply Int32.toInt_inj.mp
                    have x0 : lo ≤ x.toInt := x0
                    have x1 : x.toInt ≤ lo := x1
                    have e3 : x.toInt = lo := by omega
                    have : mi_in lo := by rw [← e3]; exact mi_inT x
                    rw [mi_ti this, e3]
                  have hin : mi_in lo := by
                    have x0 : lo ≤ x.toInt := x0
                    have x1 : x.toInt ≤ lo := x1
                    have e3 : x.toInt = lo := by omega
                    rw [← e3]
                    exact mi_inT x
                  refine ⟨?_, rfl, hl, mi_okS_cons hin (mi_okS_tl hst)⟩
                  simp only [sm_step, sm_getf, List.map_cons, mi_c]
                  rw [hh]
                  simp only
                  rw [if_pos ⟨hci.1, Or.inr ⟨hz.1, hz.2⟩⟩, hv, ex, ex2]
                  rfl
                · cases hs
            · cases hs
          · cases hs
        · cases hs
      · cases hs
    · cases hs
  · unfold mi_ald at hs
    split at hs
    · next x a r =>
      split at hs
      · next t n lo hi hk =>
        split at hs
        · next ht =>
          cases hs
          subst ht
          obtain ⟨k1, k2⟩ := mj_ak hk
          obtain ⟨f, hh, -⟩ := mx_arr hS k1 (by decide)
          have hx := mi_okS_hd hst
          have ob : 0 ≤ x ∧ x < (n : Int) := ho _ List.mem_cons_self
          have ef : f x.toNat = Int32.ofInt (mi_ra O a x.toNat h) := by
            have e1 : mx_a (mi_ap O h) a x.toNat = f x.toNat := by
              unfold mx_a
              rw [hh]
            rw [← e1]
            unfold mi_ap
            rw [mx_a_ap hP _ hO, mi_ra_eq]
          refine ⟨?_, rfl, hl, mi_okS_cons (mi_ra_in a x.toNat O hU) (mi_okS_tl (mi_okS_tl hst))⟩
          simp only [sm_step, sm_ald, List.map_cons, mi_c]
          rw [hh]
          simp only
          have hix : sm_ix (Int32.ofInt x) n = true := by
            unfold sm_ix
            rw [decide_eq_true_eq]
            have e1 := mi_ti hx
            have e2 := mi_tn hx
            refine ⟨fun c => ?_, by rw [e2]; omega⟩
            have := Int32.lt_iff_toInt_lt.mp c
            rw [e1] at this
            have e0 : (0 : Int32).toInt = 0 := rfl
            omega
          rw [if_pos ⟨trivial, hix, Or.inl k2⟩, mi_tn hx, ef]
          rfl
        · cases hs
      · cases hs
    · cases hs
  · split at hs
    · next x r =>
      cases hs
      have ob : mi_in (-x) := ho _ List.mem_cons_self
      refine ⟨?_, rfl, hl, mi_okS_cons ob (mi_okS_tl hst)⟩
      simp only [sm_step, List.map_cons, mi_c]
      rw [Int32.ofInt_neg]
      rfl
    · cases hs
  · split at hs
    · next n =>
      cases hs
      exact ⟨rfl, rfl, hl, mi_okS_cons trivial hst⟩
    · cases hs
  · split at hs
    · next k0 k =>
      split at hs
      · next y x r =>
        split at hs
        · next hc =>
          have hy := mi_okS_hd hst
          have hx := mi_okS_hd (mi_okS_tl hst)
          have hr := mi_okS_tl (mi_okS_tl hst)
          have hcc : (((r.map mi_c).map fun v => v.category).sum ≤ 8) := by rw [mi_cats_eq]; exact hc
          have lt : (Int32.ofInt x < Int32.ofInt y) ↔ x < y := by rw [Int32.lt_iff_toInt_lt, mi_ti hx, mi_ti hy]
          have gt : (Int32.ofInt y < Int32.ofInt x) ↔ y < x := by rw [Int32.lt_iff_toInt_lt, mi_ti hx, mi_ti hy]
          split at hs
          · next hk =>
            subst hk
            split at hs
            · cases hs
              have ob : x < y := ho _ List.mem_cons_self
              refine ⟨?_, rfl, hl, mi_okS_cons hy hr⟩
              simp only [sm_step, List.map_cons, mi_c]
              rw [if_pos hcc, if_pos trivial, if_pos (lt.mpr ob)]
              rfl
            · cases hs
              have ob : y ≤ x := ho _ List.mem_cons_self
              refine ⟨?_, rfl, hl, mi_okS_cons hx hr⟩
              simp only [sm_step, List.map_cons, mi_c]
              rw [if_pos hcc, if_pos trivial, if_neg (fun c => by have := lt.mp c; omega)]
              rfl
          · next hk =>
            split at hs
            · cases hs
              have ob : y < x := ho _ List.mem_cons_self
              refine ⟨?_, rfl, hl, mi_okS_cons hy hr⟩
              simp only [sm_step, List.map_cons, mi_c]
              rw [if_pos hcc, if_neg hk, if_pos (gt.mpr ob)]
              rfl
            · cases hs
              have ob : x ≤ y := ho _ List.mem_cons_self
              refine ⟨?_, rfl, hl, mi_okS_cons hx hr⟩
              simp only [sm_step, List.map_cons, mi_c]
              rw [if_pos hcc, if_neg hk, if_neg (fun c => by have := gt.mp c; omega)]
              rfl
        · cases hs
      · cases hs
    · cases hs
  · cases hs
end MJS
/-- a call on any cell of a class -/
def mj_call (sk : ab_K) (q : sm_I) (st : List mi_V) : Option (Nat × List mi_V × List mi_V) := match q.1, q.2.2 with
  | .invokestatic _, [_, m, n] => match mi_args n st with
    | some (as, r) => some (m, as, r)
    | none => none
  | .invokevirtual _, _ :: n :: ps => match mi_args (n + 1) st with
    | some (.inr (.inr a) :: as, r) => match sk[a]? with
      | some (some (.inr (ci', _))) => match sm_pick ci' ps with
        | some m => some (m, .inr (.inr a) :: as, r)
        | none => none
      | _ => none
    | _ => none
  | _, _ => none
def mj_ret (q : sm_I) (k : Nat) (st : List mi_V) : Option (Option mi_V × List Prop) := match mi_ret q k st with
  | some R => some R
  | none => match q.1, st with
    | .ireturn, [.inl z] => if k = 5 then some (some (.inl z), [0 ≤ z ∧ z ≤ 65535]) else none
    | _, _ => none
def mj_br (q : sm_I) (b : Nat) : Bool := match q.1, q.2.2 with
  | .invokestatic _, [_, _] => true
  | _, _ => mi_br q b
def mj_path (T : mi_T) (sk : ab_K) (h : sm_H) : Nat → List Nat → mi_S → Option (mi_S × List Prop)
  | 0, _, S => some (S, [])
  | n + 1, bs, (d, m, pc, ls, st, O, F) => match mi_find T m with
    | none => none
    | some (_, k, tab) => match tab[pc]? with
      | some (some q) => match mi_step sk q pc ls st h O (bs.headD 0) with
        | some (pc', ls', st', O', ob) => mi_pre ob (mj_path T sk h n (if mj_br q (bs.headD 0) then bs.tail else bs) (d, m, pc', ls', st', O', F))
        | none => match mj_step sk q pc ls st h O (bs.headD 0) with
          | some (pc', ls', st', O', ob) => mi_pre ob (mj_path T sk h n (if mj_br q (bs.headD 0) then bs.tail else bs) (d, m, pc', ls', st', O', F))
          | none => match mj_call sk q st with
            | some (m', as, r) => match d, mi_find T m' with
              | d' + 1, some (nl, _, _) => if (mi_slots as).length ≤ nl ∧ (r.map mi_cat).sum ≤ 8 then mj_path T sk h n bs (d', m', 0, mi_entry nl as, [], O, (m, pc, ls, r) :: F) else none
              | _, _ => none
            | none => match mj_ret q k st, F with
              | some (rv, ob), f :: F' => mi_pre ob (mj_path T sk h n bs (d + 1, f.1, f.2.1 + 3, f.2.2.1, mi_back rv f.2.2.2, O, F'))
              | _, _ => none
      | _ => none
section MJQ
variable {sk : ab_K} {h : sm_H} {P : Nat → Option sm_M} {QT : Nat → sm_H → Prop} {Q : Option Value → sm_H → Prop} {T : mi_T}
theorem mj_call_ok {q : sm_I} {st as r : List mi_V} {m pc : Nat} {ls : sm_L} {H : sm_H} (hS : ab_Sh sk H) (hc : mj_call sk q st = some (m, as, r)) : sm_step q pc ls (st.map mi_c) H = some (.inr (.inr (m, as.map mi_c, r.map mi_c))) ∧ (mi_okS st → mi_okS as ∧ mi_okS r) := by
  obtain ⟨i, len, rs⟩ := q
  unfold mj_call at hc
  split at hc
  · next idx k m1 n hi hrs =>
    dsimp only at hi hrs
    subst hi
    subst hrs
    split at hc
    · next as1 r1 ha =>
      cases hc
      obtain ⟨e1, e2⟩ := mi_args_inv ha
      refine ⟨?_, e2⟩
      simp only [sm_step, sm_callS]
      rw [e1]
      rfl
    · cases hc
  · next idx k n ps hi hrs =>
    dsimp only at hi hrs
    subst hi
    subst hrs
    split at hc
    · next a as1 r1 ha =>
      split at hc
      · next ci' fl hk =>
        split at hc
        · next m1 hpk =>
          cases hc
          obtain ⟨e1, e2⟩ := mi_args_inv ha
          refine ⟨?_, e2⟩
          obtain ⟨fs, ho, -, -⟩ := mx_obj hS hk
          simp only [sm_step, sm_callV]
          rw [e1]
          simp only [List.map_cons, mi_c]
          rw [ho]
          simp only [hpk]
          rfl
        · cases hc
      · cases hc
    · cases hc
  · cases hc
theorem mj_ret_ok {q : sm_I} {k pc : Nat} {st : List mi_V} {rv : Option mi_V} {ob : List Prop} {ls : sm_L} {H : sm_H} (hr : mj_ret q k st = some (rv, ob)) (hst : mi_okS st) (ho : ∀ p ∈ ob, p) : sm_step q pc ls (st.map mi_c) H = some (.inr (.inl (rv.map mi_c))) ∧ sm_okret k (rv.map mi_c) = true ∧ ∀ v, rv = some v → mi_ok v := by
  unfold mj_ret at hr
  split at hr
  · next R hR =>
    cases hr
    exact mi_ret_ok hR hst ho
  · obtain ⟨i, len, rs⟩ := q
    split at hr
    · next z hi hn =>
      have hi : i = Instr.ireturn := hi
      subst hi
      split at hr
      · next hk =>
        cases hr
        subst hk
        have h1 : 0 ≤ z ∧ z ≤ 65535 := ho _ List.mem_cons_self
        have hz : mi_in z := ⟨by omega, by omega⟩
        refine ⟨rfl, ?_, fun v hv => by cases hv; exact hz⟩
        show decide ((0 : Int32) ≤ Int32.ofInt z ∧ Int32.ofInt z ≤ 65535) = true
        rw [decide_eq_true_eq]
        have e0 : (0 : Int32).toInt = 0 := rfl
        have e1 : (65535 : Int32).toInt = 65535 := rfl
        refine ⟨Int32.le_iff_toInt_le.mpr ?_, Int32.le_iff_toInt_le.mpr ?_⟩
        · rw [mi_ti hz]; omega
        · rw [mi_ti hz]; omega
      · cases hr
    · cases hr
set_option maxHeartbeats 1000000 in
theorem mj_path_ok (hT : ∀ e ∈ T, P e.1 = some e.2) (hP : mx_Sp sk h) : ∀ (n : Nat) (bs : List Nat) (S R : mi_S) (ob : List Prop), mj_path T sk h n bs S = some (R, ob) → mi_okA sk h S → (∀ p ∈ ob, p) → (mi_okA sk h R → mi_K P QT Q h R) → mi_K P QT Q h S := by
  intro n
  induction n with
  | zero =>
    intro bs S R ob hp hA ho hk
    simp only [mj_path] at hp
    cases hp
    exact hk hA
  | succ n ih =>
    intro bs S R ob hp hA ho hk
    obtain ⟨d, m, pc, ls, st, O, F⟩ := S
    obtain ⟨hS, hO, hl, hst, hU, hF⟩ := hA
    simp only [mj_path] at hp
    split at hp
    · cases hp
    · next nl k tab hfm =>
      have hM := hT _ (mi_find_mem T hfm)
      split at hp
      · next q hq =>
        split at hp
        · next pc' ls' st' O' ob1 hs =>
          obtain ⟨ob2, hp2, rfl⟩ := mi_pre_inv hp
          obtain ⟨⟨ob', hm, hob'⟩, g1, g2, g3⟩ := mi_step_ok hs hl hst hU (fun p hp => ho p (List.mem_append_left _ hp))
          obtain ⟨e1, e2, e3⟩ := mo_step_ok hm hP hO hS hob'
          exact ab_EndsK.step (M := (nl, k, tab)) hM hq e1 (ih _ _ _ _ hp2 ⟨e2, e3, g1, g2, g3, hF⟩ (fun p hp => ho p (List.mem_append_right _ hp)) hk)
        · split at hp
          · next pc' ls' st' O' ob1 hs =>
            obtain ⟨ob2, hp2, rfl⟩ := mi_pre_inv hp
            obtain ⟨e1, e2, g1, g2⟩ := mj_step_ok hs hP hO hS hl hst hU (fun p hp => ho p (List.mem_append_left _ hp))
            have e2 : O' = O := e2
            subst e2
            exact ab_EndsK.step (M := (nl, k, tab)) hM hq e1 (ih _ _ _ _ hp2 ⟨hS, hO, g1, g2, hU, hF⟩ (fun p hp => ho p (List.mem_append_right _ hp)) hk)
          · split at hp
            · next m' as r hc =>
              obtain ⟨e1, e2⟩ := mj_call_ok (pc := pc) (ls := mi_cl ls) hS hc
              obtain ⟨k1, k2⟩ := e2 hst
              split at hp
              · next d' nl' k' tab' hfm' =>
                split at hp
                · next hcc =>
                  have hM' := hT _ (mi_find_mem T hfm')
                  refine ab_EndsK.inl (M := (nl, k, tab)) (M' := (nl', k', tab')) hM hq e1 hM' (by rw [mi_slots_len]; exact hcc.1) (by rw [mi_cats_eq]; exact hcc.2) ?_
                  have := ih _ _ _ _ hp ⟨hS, hO, mi_entry_ok k1, (fun v hv => by cases hv), hU, fun f hf => by
                    rcases List.mem_cons.mp hf with rfl | hf
                    · exact ⟨hl, k2⟩
                    · exact hF f hf⟩ ho hk
                  rw [mi_entry_eq]
                  exact this
                · cases hp
              · cases hp
            · split at hp
              · next rv ob1 f F' hr =>
                obtain ⟨ob2, hp2, rfl⟩ := mi_pre_inv hp
                obtain ⟨e1, e2, e3⟩ := mj_ret_ok (pc := pc) (ls := mi_cl ls) (H := mi_ap O h) hr hst (fun p hp => ho p (List.mem_append_left _ hp))
                have hf := hF f List.mem_cons_self
                refine ab_EndsK.ret (c := mi_cF f) (M := (nl, k, tab)) hM hq e1 e2 ?_
                have := ih _ _ _ _ hp2 ⟨hS, hO, hf.1, mi_back_ok e3 hf.2, hU, fun g hg => hF g (List.mem_cons_of_mem _ hg)⟩ (fun p hp => ho p (List.mem_append_right _ hp)) hk
                show ab_EndsK P QT Q (F'.map mi_cF) (d + 1) f.1 (f.2.1 + 3) (mi_cl f.2.2.1) (sm_back (rv.map mi_c) (f.2.2.2.map mi_c)) (mi_ap O h)
                rw [mi_back_eq]
                exact this
              · cases hp
      · cases hp
end MJQ
section MJB
variable {d m pc : Nat} {ls : mi_L} {st : List mi_V} {h : sm_H} {Q Q' : Option mi_V → sm_H → Prop} {M M' : sm_M} {q : sm_I}
theorem mf_seg {T : mi_T} {n d' m' pc' : Nat} {bs : List Nat} {ls' : mi_L} {st' : List mi_V} {O : List mi_U} {ob : List Prop} (hp : mj_path T sx_sk h n bs (d, m, pc, ls, st, [], []) = some ((d', m', pc', ls', st', O, []), ob)) (hT : ∀ e ∈ T, sc_P e.1 = some e.2) (hS : ab_Sh sx_sk h) (hl : mi_okL ls) (hst : mi_okS st) (ho : ∀ p ∈ ob, p) (k : ∀ h', me_W O h h' → mi_okL ls' → mi_okS st' → me_E d' m' pc' ls' st' h' Q) : me_E d m pc ls st h Q := by
  have hP := mx_Sh_Sp hS
  have := mj_path_ok (P := sc_P) (QT := fun _ _ => False) (Q := fun v h' => ∃ w, v = w.map mi_c ∧ (∀ x, w = some x → mi_ok x) ∧ Q w h') hT hP n bs _ _ ob hp ⟨hS, (fun u hu => by cases hu), hl, hst, (fun u hu => by cases hu), (fun f hf => by cases hf)⟩ ho (fun hA => by
    obtain ⟨a1, a2, a3, a4, a5, -⟩ := hA
    exact Or.inl (k _ (me_W_ap hP a1 a2 a5) a3 a4))
  rcases this with this | ⟨n, x, h', -, hf⟩
  · exact this
  · exact hf.elim
theorem mf_call {m' : Nat} {as r : List mi_V} {Q1 : Option mi_V → sm_H → Prop} (hM : sc_P m = some M) (hq : M.2.2[pc]? = some (some q)) (hc : mj_call sx_sk q st = some (m', as, r)) (hM' : sc_P m' = some M') (hsl : (mi_slots as).length ≤ M'.1) (hcat : (r.map mi_cat).sum ≤ 8) (hS : ab_Sh sx_sk h) (k : me_E d m' 0 (mi_entry M'.1 as) [] h Q1) (kk : ∀ w h', (∀ x, w = some x → mi_ok x) → Q1 w h' → me_E (d + 1) m (pc + 3) ls (mi_back w r) h' Q) : me_E (d + 1) m pc ls st h Q := by
  obtain ⟨e1, -⟩ := mj_call_ok (pc := pc) (ls := mi_cl ls) hS hc
  refine ab_Ends.call hM hq e1 hM' (by rw [mi_slots_len]; exact hsl) (by rw [mi_cats_eq]; exact hcat) ?_
  rw [mi_entry_eq]
  refine ab_Ends.imp k (fun v h' hw => ?_)
  obtain ⟨w, rfl, hw, hQ⟩ := hw
  rw [mi_back_eq]
  exact kk w h' hw hQ
theorem mf_ret {rv : Option mi_V} {ob : List Prop} (hM : sc_P m = some M) (hq : M.2.2[pc]? = some (some q)) (hr : mj_ret q M.2.1 st = some (rv, ob)) (hst : mi_okS st) (ho : ∀ p ∈ ob, p) (hQ : Q rv h) : me_E d m pc ls st h Q := by
  obtain ⟨e1, e2, e3⟩ := mj_ret_ok (pc := pc) (ls := mi_cl ls) (H := h) hr hst ho
  exact ab_Ends.ret hM hq e1 e2 ⟨rv, rfl, e3, hQ⟩
end MJB
