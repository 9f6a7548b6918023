/-! THE LAW's RUN is a run of the JVM -/
section SMLL
variable {l : Launch} {D : va_G} {cl : List vw_C} {tys : List (ClassId × FieldType)} {N0 : Nat} {cs : Nat → Nat} {Ts : List Cond} {sx : List (String × Nat × String × Nat)} {zx : List (String × String × String × Nat)} {oc : (List (Nat × Nat × String × String × String × Value) × List (String × Nat × MethodName × String) × List MethodName)} {K : sm_H} {Y YW : Nat → sm_Y} {P : Nat → Option sm_M} {PW : Nat → Option sm_MW} {ex : List Cond} {nc : List (Nat × Nat)}
/-- the tables are right of the law -/
def sm_okL (Ts : List Cond) (sx : List (String × Nat × String × Nat)) (zx : List (String × String × String × Nat)) (oc : (List (Nat × Nat × String × String × String × Value) × List (String × Nat × MethodName × String) × List MethodName)) (K : sm_H) (cl : List vw_C) (Y YW : Nat → sm_Y) (P : Nat → Option sm_M) (PW : Nat → Option sm_MW) (own mn : String) (bytes : ByteArray) (tab : List (Option sm_I)) : Prop :=
  ∀ (pc : Nat) (q : sm_I), tab[pc]? = some (some q) → decode bytes pc = .ok (q.1, q.2.1) ∧ sm_lenOk q.1 q.2.1 = true ∧ sm_okI Ts sx zx oc K cl own mn pc q.1 q.2.2 ∧
    ((∀ k mi n, q.2.2 = [k, mi, n] → (PW mi).isSome → ∃ idx, q.1 = .invokestatic idx ∧ Cond.static (YW mi).1 ∈ Ts ∧ Cond.initialized (YW mi).1.cls ∈ Ts ∧ sm_par (YW mi).1.desc = some n ∧ Cond.methodLink own idx (YW mi).1 ∈ Ts) ∧
     (∀ idx k n ps ci mi, q.1 = .invokevirtual idx → q.2.2 = k :: n :: ps → sm_pick ci ps = some mi → PW mi = none) ∧
     ((∀ k mi n, q.2.2 = [k, mi, n] → PW mi = none) → sm_okC Ts oc cl Y own q.1 q.2.2))
set_option maxHeartbeats 4000000 in
set_option maxRecDepth 100000 in
theorem sm_soundL (hG : sm_Good Ts sx zx oc K cl Y P) (hGT : sm_GoodT Ts sx ex cl Y P) (hGW : ∀ mi M, PW mi = some M → sm_okW Ts sx zx oc K cl nc Y YW mi M) (hgw : ∀ w ∈ Ts, goodWord w = true) (hT : sm_T tys) (hfl : l.flags = pinnedFlags ++ [noTraceFlag])
    {p : Program} {e : Env} {R : Room} {s : State} {m : MethodId} {args : Array Value} {below : List Frame} {meth : Method} {c : Code} {Q : State → Prop} {own : String} {cc : ByteArray} {nl : Nat} {tab : List (Option sm_I)} {h0 : sm_H}
    (hGL : sm_okL Ts sx zx oc K cl Y YW P PW own meth.name cc tab) (hx : p.tables.exec = Jvm.exec) (hb : c.code = cc) (hml : c.maxLocals = nl) (hown : s.vm.findClass own = some m.cls) (hts : ∀ w ∈ Ts, w.before args s = true) (hEx : sm_Ex ex N0 s) (hN : sm_N D nc s) (hK : va_K D cl tys s) (hS : sm_X cl K sx zx oc N0 cs s)
    (hret : ∀ (pc : Nat) (LS : Array Slot) (H : Heap) (locs : List Loc) (cells slots : Nat), decode cc pc = .ok (.ireturn, 1) → (∀ x ∈ locs, N0 ≤ x.base) → cells ≤ R.cells → slots ≤ R.slots → W p l e R s m args below meth c H locs cells slots Q (F0 m pc LS [.int 1])) :
  ∀ (n d pc : Nat) (ls : sm_L) (st : List Value) (h : sm_H) (h' : sm_H), sm_runL P PW tab n d pc ls st h = some (some (.int 1), h') → ls.length = nl → d + 20 ≤ R.frames → 64 * d + 400 ≤ R.locals → h'.length - h0.length ≤ R.cells → sm_sl h' - sm_sl h0 ≤ R.slots →
  ∀ (H : Heap) (locs : List Loc) (LS : Array Slot), sm_P D cl tys N0 cs K h H → sm_LR (sm_ad N0 cs) ls LS → (∀ q, q < N0 → H[q]? = s.heap[q]?) → s.heap.size ≤ H.size → (∀ x ∈ locs, N0 ≤ x.base) → h0.length ≤ h.length → sm_sl h0 ≤ sm_sl h →
    W p l e R s m args below meth c H locs (h.length - h0.length) (sm_sl h - sm_sl h0) Q (F0 m pc LS (st.map (sm_mv (sm_ad N0 cs)))) := by
  intro n
  induction n with
  | zero => intro d pc ls st h h' hr; simp [sm_runL] at hr
  | succ n ih =>
    intro d pc ls st h h' hr hlen hfr hlo hcR hsR H locs LS hP hL hF hZ0 hlocs hz1 hz2
    have hmono := sm_runL_mono _ _ _ _ _ _ _ _ hr
    unfold sm_runL at hr
    split at hr
    · next q hq =>
      obtain ⟨d1, d2, d3, d5, d6, d4⟩ := hGL pc q hq
      obtain ⟨i, len, rs⟩ := q
      dsimp only at d1 d2 d3 d4 d5 d6
      split at hr
      · next pc1 ls1 st1 h1 hs =>
        have hm1 := sm_step_mono hs
        have hm2 := sm_runL_mono _ _ _ _ _ _ _ _ hr
        refine sm_next (h' := h1) hx hb hts hown hK hT hS hF hZ0 d3 d2 d1 hP hL hlocs ⟨by omega, by omega⟩ (by rw [hml, hlen]) ⟨by omega, by omega⟩ hs ?_
        intro H' locs' LS' hP' hL' hF' hlocs'
        have e1 : h.length - h0.length + (h1.length - h.length) = h1.length - h0.length := by omega
        have e2 : sm_sl h - sm_sl h0 + (sm_sl h1 - sm_sl h) = sm_sl h1 - sm_sl h0 := by omega
        rw [e1, e2]
        exact ih d pc1 ls1 st1 h1 h' hr (by rw [sm_step_len hs]; exact hlen) hfr hlo hcR hsR H' locs' LS' hP' hL' (fun q hq => (hF' q hq).trans (hF q hq)) (by have z1 := hP.1; have z2 := hP'.1; omega) hlocs' (by omega) (by omega)
      · next v1 hs =>
        cases hr
        rcases sm_ret_inv hs with ⟨rfl, x, rfl, z⟩ | ⟨rfl, x, rfl, z⟩ | ⟨rfl, x, rfl, z⟩ | ⟨rfl, rfl, z⟩
        · cases z
          simp only [sm_lenOk, beq_iff_eq] at d2
          subst d2
          exact hret pc LS H locs _ _ d1 hlocs hcR hsR
        · cases z
        · cases z
        · cases z
      · next m1 as r hs =>
        split at hr
        · next d1' =>
          split at hr
          · next nl1 k1 tab1 al1 hM1 =>
            split at hr
            · next hc =>
              obtain ⟨hc1, hc2⟩ := hc
              split at hr
              · next v1 h1 hcall =>
                have hm1 := sm_runW_mono _ _ _ _ _ _ _ _ _ hcall
                have hm2 := sm_runL_mono _ _ _ _ _ _ _ _ hr
                obtain ⟨q1, q2, q3, q4, -, -⟩ := hGW m1 _ hM1
                dsimp only at q1 q4
                have hMet := sm_metW (l := l) (D := D) (tys := tys) (N0 := N0) (cs := cs) (as := as) hG hGT hGW hgw hT hfl hM1 hcall hc1
                have hgi : GoodIn Ts (Cond.codeWith (YW m1).1 (YW m1).2.1 nl1 (YW m1).2.2 (sm_hh al1) :: Ts) := sm_goodIn hgw q1
                have hpre : ∀ U : State, U.heap = H → s.WarmedH U.vm → sm_PcW D cl tys sx zx oc K ex nc N0 cs as h (as.map (sm_mv (sm_ad N0 cs))).toArray U := fun U hU hW => ⟨⟨⟨rfl, by rw [hU]; exact hP, va_K.moved hW.alike hK, hS.at_ hW (fun q hq => by rw [hU]; exact hF q hq)⟩, hEx.at_ hW (fun q hq => by rw [hU]; exact hF q hq)⟩, fun z hz => by rw [hW.alike.assignable]; exact hN z hz⟩
                have goOn : ∀ (a : Array Value), va_Run p l e R s m args below meth c H locs (h.length - h0.length) (sm_sl h - sm_sl h0) (h1.length - h.length) (sm_sl h1 - sm_sl h) (F0 m pc LS (st.map (sm_mv (sm_ad N0 cs)))) (r.map (sm_mv (sm_ad N0 cs))) (sm_Qc D cl tys N0 cs K v1 h1 a) (fun q => N0 ≤ q) →
                    W p l e R s m args below meth c H locs (h.length - h0.length) (sm_sl h - sm_sl h0) Q (F0 m pc LS (st.map (sm_mv (sm_ad N0 cs)))) := by
                  intro a hrun
                  refine sm_after hrun hlocs fun H1 locs1 hP1 hF1 hl1 => ?_
                  have e1 : h.length - h0.length + (h1.length - h.length) = h1.length - h0.length := by omega
                  have e2 : sm_sl h - sm_sl h0 + (sm_sl h1 - sm_sl h) = sm_sl h1 - sm_sl h0 := by omega
                  rw [e1, e2, ← sm_back_eq]
                  exact ih (d1' + 1) (pc + 3) ls (sm_back v1 r) h1 h' hr hlen hfr hlo hcR hsR H1 locs1 LS hP1 hL (fun q hq => (hF1 q hq).trans (hF q hq)) (by have z1 := hP.1; have z2 := hP1.1; omega) hl1 (by omega) (by omega)
                have hsome : (PW m1).isSome = true := by rw [hM1]; rfl
                rcases sm_call_inv hs with ⟨idx, k, n1, rfl, rfl, ha⟩ | ⟨idx, k, n1, b, bs, rfl, rfl, ha, rfl⟩ | ⟨idx, k, n1, ps, b, bs, ci, fs, rfl, rfl, ha, rfl, hbc, hpk⟩
                · simp only [sm_lenOk, beq_iff_eq] at d2
                  subst d2
                  obtain ⟨idx', z1, w1, w2, w3, w4⟩ := d5 k m1 n1 rfl hsome
                  cases z1
                  obtain ⟨ea, el⟩ := sm_args_inv ha
                  have hst : (st.map (sm_mv (sm_ad N0 cs))) = (as.map (sm_mv (sm_ad N0 cs))).reverse ++ r.map (sm_mv (sm_ad N0 cs)) := by rw [ea, List.map_append, List.map_reverse]
                  exact goOn _ (sm_runSW (bytes := (YW m1).2.1) (maxL := nl1) (ret := (YW m1).2.2) (hh := sm_hh al1) (As := as.map (sm_mv (sm_ad N0 cs))) ⟨hx, hb, hml, hown, hts⟩ hMet rfl rfl ⟨by have z : (sm_roomW d1' (h1.length - h.length) (sm_sl h1 - sm_sl h)).frames = d1' + 9 := rfl; rw [z]; omega, by have z : (sm_roomW d1' (h1.length - h.length) (sm_sl h1 - sm_sl h)).locals = 64 * d1' + 256 := rfl; rw [z]; omega⟩ (pay_in hts hgi) List.mem_cons_self (hts _ q1) (hts _ w2) (hts _ w1) (hts _ w4) q3 w3 ⟨sm_blindW, hpre⟩ rfl (by rw [List.length_map]; exact el) (hL.1.trans hlen) hst (sm_catsum hc2) d1 ⟨by omega, by omega⟩)
                · obtain ⟨idx', z1, -⟩ := d5 k m1 n1 rfl hsome
                  cases z1
                · have := d6 idx k n1 ps ci m1 rfl rfl hpk
                  rw [hM1] at this
                  cases this
              · cases hr
            · cases hr
          · next hMn =>
            split at hr
            · next nl1 k1 tab1 hM1 =>
              split at hr
              · next hc =>
                obtain ⟨hc1, hc2⟩ := hc
                split at hr
                · next v1 h1 hcall =>
                  have hm1 := sm_run_mono _ _ _ _ _ _ _ _ _ hcall
                  have hm2 := sm_runL_mono _ _ _ _ _ _ _ _ hr
                  have hcc : sm_okC Ts oc cl Y own i rs := d4 (fun k mi n1 z => by
                    rcases sm_call_inv hs with ⟨idx, k2, n2, -, z2, -⟩ | ⟨idx, k2, n2, b, bs, -, z2, -, -⟩ | ⟨idx, k2, n2, ps, b, bs, ci, fs, z3, z2, ha, -, -, hpk⟩
                    · dsimp only at z2
                      rw [z] at z2
                      cases z2
                      exact hMn
                    · dsimp only at z2
                      rw [z] at z2
                      cases z2
                      exact hMn
                    · dsimp only at z2
                      rw [z] at z2
                      cases z2
                      simp [sm_pick] at hpk)
                  refine sm_callW hG hgw hT hx hb hml hown hts hK hS hP (hL.1.trans hlen) hF hlocs d1 d2 hcc hs hM1 hc1 hc2 hcall (by omega) (by omega) ⟨by omega, by omega⟩ ?_
                  intro H1 locs1 hP1 hF1 hl1
                  have e1 : h.length - h0.length + (h1.length - h.length) = h1.length - h0.length := by omega
                  have e2 : sm_sl h - sm_sl h0 + (sm_sl h1 - sm_sl h) = sm_sl h1 - sm_sl h0 := by omega
                  rw [e1, e2]
                  exact ih (d1' + 1) (pc + 3) ls (sm_back v1 r) h1 h' hr hlen hfr hlo hcR hsR H1 locs1 LS hP1 hL (fun q hq => (hF1 q hq).trans (hF q hq)) (by have z1 := hP.1; have z2 := hP1.1; omega) hl1 (by omega) (by omega)
                · cases hr
              · cases hr
            · cases hr
        · cases hr
      · cases hr
    · cases hr
end SMLL
