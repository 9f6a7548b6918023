/-! RUNS THAT THROW. -/
section SMU
variable {l : Launch} {D : va_G} {cl : List vw_C} {tys : List (ClassId × FieldType)} {N0 : Nat} {cs : Nat → Nat} {Ts : List Cond} {sx : List (String × Nat × String × Nat)} {zx : List (String × String × String × Nat)} {oc : (List (Nat × Nat × String × String × String × Value) × List (String × Nat × MethodName × String) × List MethodName)} {K : sm_H} {Y : Nat → sm_Y} {P : Nat → Option sm_M}
variable {p : Program} {e : Env} {R : Room} {s : State} {m : MethodId} {args : Array Value} {below : List Frame} {meth : Method} {c : Code} {H : Heap} {locs : List Loc} {cells slots : Nat} {Q : State → Prop}
set_option maxHeartbeats 4000000 in
/-- a call that returns, in any walk -/
theorem sm_callW (hG : sm_Good Ts sx zx oc K cl Y P) (hgw : ∀ w ∈ Ts, goodWord w = true) (hT : sm_T tys) {own : String} {cc : ByteArray} {nl n d m1 nl1 k1 pc len : Nat} {tab1 : List (Option sm_I)} {i : Instr} {rs : List Nat} {ls : sm_L} {st as r : List Value} {h h1 : sm_H} {v1 : Option Value} {LS : Array Slot}
    (hx : p.tables.exec = Jvm.exec) (hb : c.code = cc) (hml : c.maxLocals = nl) (hown : s.vm.findClass own = some m.cls) (hts : ∀ w ∈ Ts, w.before args s = true) (hK : va_K D cl tys s) (hS : sm_X cl K sx zx oc N0 cs s)
    (hP : sm_P D cl tys N0 cs K h H) (hsz : LS.size = nl) (hF : ∀ q, q < N0 → H[q]? = s.heap[q]?) (hlocs : ∀ x ∈ locs, N0 ≤ x.base)
    (d1 : decode cc pc = .ok (i, len)) (d2 : sm_lenOk i len = true) (d4 : sm_okC Ts oc cl Y own i rs) (hs : sm_step (i, len, rs) pc ls st h = some (.inr (.inr (m1, as, r))))
    (hM1 : P m1 = some (nl1, k1, tab1)) (hc1 : (sm_slots as).length ≤ nl1) (hc2 : (r.map fun v => v.category).sum ≤ 8) (hcall : sm_run P n d m1 0 (sm_entry nl1 as) [] h = some (v1, h1))
    (hfr : d + 3 ≤ R.frames) (hlo : 64 * d + 128 ≤ R.locals) (hroomC : cells + (h1.length - h.length) ≤ R.cells ∧ slots + (sm_sl h1 - sm_sl h) ≤ R.slots)
    (kk : ∀ (H1 : Heap) (locs1 : List Loc), sm_P D cl tys N0 cs K h1 H1 → (∀ q, q < N0 → H1[q]? = H[q]?) → (∀ x ∈ locs1, N0 ≤ x.base) →
      W p l e R s m args below meth c H1 locs1 (cells + (h1.length - h.length)) (slots + (sm_sl h1 - sm_sl h)) Q (F0 m (pc + 3) LS ((sm_back v1 r).map (sm_mv (sm_ad N0 cs))))) :
    W p l e R s m args below meth c H locs cells slots Q (F0 m pc LS (st.map (sm_mv (sm_ad N0 cs)))) := by
  obtain ⟨q1, q2, q3, q4, -, -⟩ := hG m1 _ hM1
  dsimp only at q1 q4
  have hMet := sm_metof (l := l) (D := D) (tys := tys) (N0 := N0) (cs := cs) (as := as) (sm_sound hG hgw hT n) hG hM1 hcall hc1
  have hgi := sm_goodIn hgw q1
  have hroom : (sm_room d (h1.length - h.length) (sm_sl h1 - sm_sl h)).frames + 1 ≤ R.frames ∧ 8 + (nl1 + 11) + (sm_room d (h1.length - h.length) (sm_sl h1 - sm_sl h)).locals ≤ R.locals := ⟨by show d + 2 + 1 ≤ _; omega, by show 8 + (nl1 + 11) + (64 * d + 64) ≤ _; omega⟩
  have hpre : ∀ U : State, U.heap = H → s.WarmedH U.vm → sm_Pc D cl tys sx zx oc K N0 cs as h (as.map (sm_mv (sm_ad N0 cs))).toArray U := fun U hU hW => ⟨rfl, by rw [hU]; exact hP, va_K.moved hW.alike hK, hS.at_ hW (fun q hq => by rw [hU]; exact hF q hq)⟩
  have hfix : CallFix p m c cc nl s args Ts own := ⟨hx, hb, hml, hown, hts⟩
  have goOn : ∀ (a : Array Value), va_Run p l e R s m args below meth c H locs cells slots (h1.length - h.length) (sm_sl h1 - sm_sl h) (F0 m pc LS (st.map (sm_mv (sm_ad N0 cs)))) (r.map (sm_mv (sm_ad N0 cs))) (sm_Qc D cl tys N0 cs K v1 h1 a) (fun q => N0 ≤ q) →
      W p l e R s m args below meth c H locs cells slots Q (F0 m pc LS (st.map (sm_mv (sm_ad N0 cs)))) := by
    intro a hrun
    refine sm_after hrun hlocs fun H1 locs1 hP1 hF1 hl1 => ?_
    rw [← sm_back_eq]
    exact kk H1 locs1 hP1 hF1 hl1
  rcases sm_call_inv hs with ⟨idx, k, n1, rfl, rfl, ha⟩ | ⟨idx, k, n1, b, bs, rfl, rfl, ha, rfl⟩ | ⟨idx, k, n1, ps, b, bs, ci, fs, rfl, rfl, ha, rfl, hbc, hpk⟩
  · simp only [sm_lenOk, beq_iff_eq] at d2
    subst d2
    obtain ⟨w1, w2, w3, w4⟩ := d4
    obtain ⟨ea, el⟩ := sm_args_inv ha
    have hst : (st.map (sm_mv (sm_ad N0 cs))) = (as.map (sm_mv (sm_ad N0 cs))).reverse ++ r.map (sm_mv (sm_ad N0 cs)) := by rw [ea, List.map_append, List.map_reverse]
    rcases w4 with w4 | ⟨host, w4⟩
    · exact goOn _ (va_runS (As := as.map (sm_mv (sm_ad N0 cs))) hfix hMet ⟨callB_of n1 hts hgi rfl rfl rfl (hts _ w2) (hts _ w4) ⟨q3.1, q3.2, w3⟩ hroom, hts _ w1⟩ ⟨sm_blind, hpre⟩ rfl (by rw [List.length_map]; exact el) hsz hst (sm_catsum hc2) d1 hroomC)
    · exact goOn _ (va_runSN (As := as.map (sm_mv (sm_ad N0 cs))) hfix hMet ⟨va_cnB n1 hts hgi rfl rfl rfl (hS.2.2.2.1 _ w4) (hts _ w2) ⟨q3.1, q3.2, w3⟩ hroom, hts _ w1, trivial⟩ ⟨sm_blind, hpre⟩ rfl (by rw [List.length_map]; exact el) hsz hst (sm_catsum hc2) d1 hroomC)
  · simp only [sm_lenOk, beq_iff_eq] at d2
    subst d2
    obtain ⟨w0, w1, w2, w3, ⟨k2, rfl, w4⟩, w5⟩ := d4
    obtain ⟨ea, el⟩ := sm_args_inv ha
    have hst : (st.map (sm_mv (sm_ad N0 cs))) = (bs.map (sm_mv (sm_ad N0 cs))).reverse ++ .ref (sm_ad N0 cs b) :: r.map (sm_mv (sm_ad N0 cs)) := by rw [ea]; simp [sm_mv]
    rw [w1] at hMet hgi
    rcases w5 with w5 | ⟨host, w5⟩
    · exact goOn _ (va_runI (As := bs.map (sm_mv (sm_ad N0 cs))) hfix hMet ⟨callB_of k2 hts hgi rfl rfl rfl (hts _ w3) (hts _ w5) ⟨q3.1, q3.2, w4⟩ hroom, w0, hts _ w2⟩ ⟨sm_blind, hpre⟩ rfl (by rw [List.length_map]; simpa using el) hsz hst (sm_catsum hc2) d1 hroomC)
    · exact goOn _ (va_runIN (As := bs.map (sm_mv (sm_ad N0 cs))) hfix hMet ⟨va_cnB k2 hts hgi rfl rfl rfl (hS.2.2.2.1 _ w5) (hts _ w3) ⟨q3.1, q3.2, w4⟩ hroom, w0, hts _ w2⟩ ⟨sm_blind, hpre⟩ rfl (by rw [List.length_map]; simpa using el) hsz hst (sm_catsum hc2) d1 hroomC)
  · simp only [sm_lenOk, beq_iff_eq] at d2
    subst d2
    obtain ⟨C, w1, w2, w3, w4⟩ := d4 ci m1 hpk
    obtain ⟨ea, el⟩ := sm_args_inv ha
    have hst : (st.map (sm_mv (sm_ad N0 cs))) = (bs.map (sm_mv (sm_ad N0 cs))).reverse ++ .ref (sm_ad N0 cs b) :: r.map (sm_mv (sm_ad N0 cs)) := by rw [ea]; simp [sm_mv]
    have hrc := sm_recv hP hS.2.2.2.2.2 hF hK hbc w1
    have hel : (bs.map (sm_mv (sm_ad N0 cs))).length = n1 := by rw [List.length_map]; simpa using el
    rcases w4 with ⟨u1, u2, u3⟩ | ⟨host, u1, u2, u3⟩ | ⟨x, owner, u1, u2, u3, u4, u5, u6⟩
    · exact goOn _ (va_runV (C := C) (As := bs.map (sm_mv (sm_ad N0 cs))) hfix hMet ⟨callB_of n1 hts hgi rfl rfl rfl (hts _ w3) (hts _ u1) ⟨q3.1, q3.2, u3⟩ hroom, hts _ w2, hts _ u2⟩ ⟨sm_blind, hrc, hpre⟩ rfl hel hsz hst (sm_catsum hc2) d1 hroomC)
    · exact goOn _ (va_runVN (C := C) (As := bs.map (sm_mv (sm_ad N0 cs))) hfix hMet ⟨va_cnB n1 hts hgi rfl rfl rfl (hS.2.2.2.1 _ u1) (hts _ w3) ⟨q3.1, q3.2, u3⟩ hroom, hts _ w2, hts _ u2⟩ ⟨sm_blind, hrc, hpre⟩ rfl hel hsz hst (sm_catsum hc2) d1 hroomC)
    · have hdecl : va_Decl s ⟨owner, x.name, x.desc⟩ := by
        rcases u6 with u6 | ⟨u6, b0, m0, r0, u7⟩
        · exact va_Decl.abs (hS.2.2.2.2.1.2 _ u6)
        · exact va_Decl.of (hts _ u6) (hts _ u7)
      exact goOn _ (va_runU (C := C) (As := bs.map (sm_mv (sm_ad N0 cs))) hfix hMet ⟨⟨rfl, rfl, hroom.1, hroom.2, pay_in hts hgi, List.mem_cons_self⟩, hts _ q1, hts _ w3, u3, (fun sig hsig => by have h2 := u5; unfold sm_par at h2; rw [hsig] at h2; exact (Option.some.inj h2).symm), hts _ u1, hts _ u2, hdecl, hts _ u4, hts _ w2⟩ ⟨sm_blind, hrc, hpre⟩ rfl hel hsz hst (sm_catsum hc2) d1 hroomC)
end SMU
