/-! A run of a method with handlers is a run of the JVM -/
theorem sm_runT_last {P : Nat → Option sm_M} : ∀ (n d m pc : Nat) (ls : sm_L) (st : List Value) (h : sm_H) (x : Nat) (h' : sm_H), sm_runT P n d m pc ls st h = some (x, h') → ∃ h2, h' = h2 ++ [sm_exc x] ∧ h.length ≤ h2.length := by
  intro n
  induction n with
  | zero => intro d m pc ls st h v h' hr; simp [sm_runT] at hr
  | succ n ih =>
    intro d m pc ls st h v h' hr
    unfold sm_runT at hr
    split at hr
    · cases hr
    · split at hr
      · split at hr
        · split at hr
          · cases hr; exact ⟨h, rfl, Nat.le_refl _⟩
          · cases hr
        · split at hr
          · next hs =>
            obtain ⟨h2, e, hl⟩ := ih _ _ _ _ _ _ _ _ hr
            exact ⟨h2, e, Nat.le_trans (sm_step_mono hs).1 hl⟩
          · cases hr
          · split at hr
            · split at hr
              · split at hr
                · next hc =>
                  obtain ⟨h2, e, hl⟩ := ih _ _ _ _ _ _ _ _ hr
                  exact ⟨h2, e, Nat.le_trans (sm_run_mono _ _ _ _ _ _ _ _ _ hc).1 hl⟩
                · cases hr
              · cases hr
            · cases hr
          · cases hr
      · cases hr
section SMZ
variable {l : Launch} {D : va_G} {cl : List vw_C} {tys : List (ClassId × FieldType)} {N0 : Nat} {cs : Nat → Nat} {Ts : List Cond} {sx : List (String × Nat × String × Nat)} {zx : List (String × String × String × Nat)} {oc : (List (Nat × Nat × String × String × String × Value) × List (String × Nat × MethodName × String) × List MethodName)} {K : sm_H} {Y YW : Nat → sm_Y} {P : Nat → Option sm_M} {PW : Nat → Option sm_MW} {ex : List Cond} {nc : List (Nat × Nat)}
def sm_GoodT (Ts : List Cond) (sx : List (String × Nat × String × Nat)) (ex : List Cond) (cl : List vw_C) (Y : Nat → sm_Y) (P : Nat → Option sm_M) : Prop := ∀ mi M pc q x, P mi = some M → M.2.2[pc]? = some (some q) → sm_thr q = some x → ∃ ix, q.1 = .new ix ∧ sm_okT Ts sx ex cl (Y mi).1.cls (Y mi).2.1 pc ix x
theorem sm_blindT {as : List Value} {h : sm_H} : FrameBlind (sm_PcT D cl tys sx zx oc K ex N0 cs as h) := fun a U g mk q => ⟨sm_blind a U g mk q.1, fun w hw v V h1 h2 => q.2 w hw v V h1 h2⟩
set_option maxHeartbeats 4000000 in
theorem sm_soundW (hG : sm_Good Ts sx zx oc K cl Y P) (hGT : sm_GoodT Ts sx ex cl Y P) (hGW : ∀ mi M, PW mi = some M → sm_okW Ts sx zx oc K cl nc Y YW mi M) (hgw : ∀ w ∈ Ts, goodWord w = true) (hT : sm_T tys) (hfl : l.flags = pinnedFlags ++ [noTraceFlag]) :
  ∀ (n d mi pc : Nat) (ls : sm_L) (st : List Value) (h : sm_H) (v : Option Value) (h' : sm_H) (M : sm_MW), PW mi = some M → sm_runW P PW n d mi pc ls st h = some (v, h') → ls.length = M.1.1 →
  ∀ (p : Program) (e : Env) (s : State) (m : MethodId) (args : Array Value) (below : List Frame) (meth : Method) (c : Code) (H : Heap) (locs : List Loc) (LS : Array Slot) (h0 : sm_H), p.tables.exec = Jvm.exec → c.code = (YW mi).2.1 → meth.sig.returnType = (YW mi).2.2 → c.maxLocals = M.1.1 → c.exceptionTable.toList.map (fun h => (h.startPc, h.endPc, h.handlerPc, h.catchType)) = M.2.map (fun q => (q.1, q.2.1, q.2.2.1, q.2.2.2.1)) → s.vm.findClass (YW mi).1.cls = some m.cls → meth.name = (YW mi).1.name → (∀ w ∈ Ts, w.before args s = true) → sm_Ex ex N0 s → sm_N D nc s → meth.locks = false → va_K D cl tys s → sm_X cl K sx zx oc N0 cs s →
    sm_P D cl tys N0 cs K h H → sm_LR (sm_ad N0 cs) ls LS → (∀ q, q < N0 → H[q]? = s.heap[q]?) → s.heap.size ≤ H.size → (∀ x ∈ locs, N0 ≤ x.base) → h0.length ≤ h.length → sm_sl h0 ≤ sm_sl h →
    W p l e (sm_roomW d (h'.length - h0.length) (sm_sl h' - sm_sl h0)) s m args below meth c H locs (h.length - h0.length) (sm_sl h - sm_sl h0) (MQ below (sm_Qc D cl tys N0 cs K v h') args s (h'.length - h0.length) (sm_sl h' - sm_sl h0) (fun q => N0 ≤ q)) (F0 m pc LS (st.map (sm_mv (sm_ad N0 cs)))) := by
  intro n
  induction n with
  | zero => intro d mi pc ls st h v h' M hM hr; simp [sm_runW] at hr
  | succ n ih =>
    intro d mi pc ls st h v h' M hM hr hlen p e s m args below meth c H locs LS h0 hx hb hrt hml hhd hown hmn hts hEx hN hlocks hK hS hP hL hF hZ0 hlocs hz1 hz2
    obtain ⟨g1, g2, g3, g4, g5, g6⟩ := hGW mi M hM
    obtain ⟨⟨nl, kr, tab⟩, al⟩ := M
    unfold sm_runW at hr
    rw [hM] at hr
    dsimp only at hr hlen hml hhd g1 g4 g5 g6
    split at hr
    · next q hq =>
      obtain ⟨d1, d2, d3, d4, d5, d6, d7⟩ := g6 pc q hq
      obtain ⟨i, len, rs⟩ := q
      dsimp only at d1 d2 d3 d4 d5 d7
      split at hr
      · next pc1 ls1 st1 h1 hs =>
        have hm1 := sm_step_mono hs
        have hm2 := sm_runW_mono _ _ _ _ _ _ _ _ _ hr
        refine sm_next (h' := h1) hx hb hts hown hK hT hS hF hZ0 (by rw [hmn]; exact d3) d2 d1 hP hL hlocs ⟨by show 2 ≤ d + 9; omega, by show 43 ≤ 64 * d + 256; omega⟩ (by rw [hml, hlen]) ⟨by show _ ≤ h'.length - h0.length; omega, by show _ ≤ sm_sl h' - sm_sl h0; omega⟩ hs ?_
        intro H' locs' LS' hP' hL' hF' hlocs'
        have e1 : h.length - h0.length + (h1.length - h.length) = h1.length - h0.length := by omega
        have e2 : sm_sl h - sm_sl h0 + (sm_sl h1 - sm_sl h) = sm_sl h1 - sm_sl h0 := by omega
        rw [e1, e2]
        exact ih d mi pc1 ls1 st1 h1 v h' _ hM hr (by rw [sm_step_len hs]; exact hlen) p e s m args below meth c H' locs' LS' h0 hx hb hrt hml hhd hown hmn hts hEx hN hlocks hK hS hP' hL' (fun q hq => (hF' q hq).trans (hF q hq)) (by have z1 := hP.1; have z2 := hP'.1; omega) hlocs' (by omega) (by omega)
      · next v1 hs =>
        split at hr
        · next hkr =>
          cases hr
          exact sm_retW hx hb hrt hlocks hP hF hlocs g5 d1 d2 hs hkr
        · cases hr
      · next m1 as r hs =>
        split at hr
        · next d1' nl1 k1 tab1 hM1 =>
          split at hr
          · next hc =>
            obtain ⟨hc1, hc2⟩ := hc
            split at hr
            · next v1 h1 hcall =>
              have hm1 := sm_run_mono _ _ _ _ _ _ _ _ _ hcall
              have hm2 := sm_runW_mono _ _ _ _ _ _ _ _ _ hr
              refine sm_callW hG hgw hT hx hb hml hown hts hK hS hP (hL.1.trans hlen) hF hlocs d1 d2 d4 hs hM1 hc1 hc2 hcall (by show d1' + 3 ≤ d1' + 1 + 9; omega) (by show 64 * d1' + 128 ≤ 64 * (d1' + 1) + 256; omega) ⟨by show _ ≤ h'.length - h0.length; omega, by show _ ≤ sm_sl h' - sm_sl h0; omega⟩ ?_
              intro H1 locs1 hP1 hF1 hl1
              have e1 : h.length - h0.length + (h1.length - h.length) = h1.length - h0.length := by omega
              have e2 : sm_sl h - sm_sl h0 + (sm_sl h1 - sm_sl h) = sm_sl h1 - sm_sl h0 := by omega
              rw [e1, e2]
              exact ih (d1' + 1) mi (pc + 3) ls (sm_back v1 r) h1 v h' _ hM hr hlen p e s m args below meth c H1 locs1 LS h0 hx hb hrt hml hhd hown hmn hts hEx hN hlocks hK hS hP1 hL (fun q hq => (hF1 q hq).trans (hF q hq)) (by have z1 := hP.1; have z2 := hP1.1; omega) hl1 (by omega) (by omega)
            · split at hr
              · next x1 h1 hcall =>
                split at hr
                · next hp hfind =>
                  have hm1 := sm_runT_mono _ _ _ _ _ _ _ _ _ hcall
                  have hm2 := sm_runW_mono _ _ _ _ _ _ _ _ _ hr
                  obtain ⟨⟨X, TX, hclx⟩, hokh⟩ := d6 x1 hp hfind
                  obtain ⟨no1, no2⟩ := d7 ⟨x1, hp, hfind⟩
                  rcases sm_call_inv hs with ⟨idx, k, n1, z, -, -⟩ | ⟨idx, k, n1, b, bs, z, -, -, -⟩ | ⟨idx, k, n1, ps, b, bs, ci, fs, rfl, rfl, ha, rfl, hbc, hpk⟩
                  · exact (no1 idx z).elim
                  · exact (no2 idx z).elim
                  · simp only [sm_lenOk, beq_iff_eq] at d2
                    subst d2
                    obtain ⟨C, T, N, w1, w2, w3, w4, w5, w6⟩ := d5 idx k n1 ps ci m1 rfl rfl hpk
                    obtain ⟨q1, q2, q3, q4, -, -⟩ := hG m1 _ hM1
                    dsimp only at q1 q4
                    obtain ⟨ea, el⟩ := sm_args_inv ha
                    have hst : (st.map (sm_mv (sm_ad N0 cs))) = (bs.map (sm_mv (sm_ad N0 cs))).reverse ++ .ref (sm_ad N0 cs b) :: r.map (sm_mv (sm_ad N0 cs)) := by rw [ea]; simp [sm_mv]
                    have hrc := sm_recv hP hS.2.2.2.2.2 hF hK hbc (sm_nm_of w1)
                    obtain ⟨cellB, hcB, hoB, hclB⟩ := hrc
                    have hel : (bs.map (sm_mv (sm_ad N0 cs))).length = n1 := by rw [List.length_map]; simpa using el
                    have hMet := sm_metT (l := l) (D := D) (tys := tys) (N0 := N0) (cs := cs) (as := .ref b :: bs) hG hgw hT hfl hGT hM1 hcall hc1
                    intro T0 hT0 X0
                    obtain ⟨T1, L, X1, hL1, hP1, hF1, st1⟩ := sm_callVT X0 hx (C := C) (bytes := (Y m1).2.1) (maxL := nl1) (ret := (Y m1).2.2) hown (hts _ w4) (hts _ w2) (hts _ w5) (hts _ q1) (hts _ w3) q3 hMet sm_blindT rfl rfl (by show d1' + 8 + 1 ≤ d1' + 1 + 9; omega) (by show 8 + (nl1 + 11) + (64 * d1' + 160) ≤ 64 * (d1' + 1) + 256; omega) (pay_in hts (sm_goodIn hgw q1)) List.mem_cons_self (by rw [hT0]; exact hcB) hoB hclB (g := F0 m pc LS (st.map (sm_mv (sm_ad N0 cs)))) rfl (by show LS.size = c.maxLocals; rw [hL.1, hlen, hml]) (argsL := bs.map (sm_mv (sm_ad N0 cs))) (rest := r.map (sm_mv (sm_ad N0 cs))) (fun sig hsig => by have h2 := w6; unfold sm_par at h2; rw [hsig] at h2; exact hel.trans (Option.some.inj h2).symm) hst (sm_catsum hc2) (by rw [hb]; exact d1) ⟨by show _ ≤ h'.length - h0.length; omega, by show _ ≤ sm_sl h' - sm_sl h0; omega⟩ (fun U hU hW => ⟨⟨rfl, by rw [hU, hT0]; exact hP, va_K.moved hW.alike hK, hS.at_ hW (fun q hq => by rw [hU, hT0]; exact hF q hq)⟩, hEx.at_ hW (fun q hq => by rw [hU, hT0]; exact hF q hq)⟩)
                    rw [hT0] at hF1
                    have hexc : h1[h1.length - 1]? = some (sm_exc x1) := by
                      obtain ⟨h2, rfl, -⟩ := sm_runT_last _ _ _ _ _ _ _ _ _ hcall
                      simp
                    have hexC : sm_C ≤ h1.length - 1 := by
                      obtain ⟨h2, e2, hl2⟩ := sm_runT_last _ _ _ _ _ _ _ _ _ hcall
                      have hl3 := hP.2.1
                      rw [e2, List.length_append, List.length_singleton]
                      omega
                    obtain ⟨r9, v1, cell, v2, v3, v4, -⟩ := hP1.2.2.2 _ _ hexC hexc
                    obtain ⟨kx, hkx⟩ := (hK.1 x1 _ hclx).2.2
                    obtain ⟨vm', X2, st2⟩ := sm_caught X1 (own := (YW mi).1.cls) (g := F0 m pc LS (r.map (sm_mv (sm_ad N0 cs)))) rfl al hhd hown hts hK hN v2 v4 v3 ⟨kx, hkx.1⟩ hokh hfind
                    have e1 : h.length - h0.length + (h1.length - h.length) = h1.length - h0.length := by omega
                    have e2 : sm_sl h - sm_sl h0 + (sm_sl h1 - sm_sl h) = sm_sl h1 - sm_sl h0 := by omega
                    rw [e1, e2] at X2
                    have hW2 := ih (d1' + 1) mi hp ls [.ref (h1.length - 1)] h1 v h' _ hM hr hlen p e s m args below meth c T1.heap (locs ++ L) LS h0 hx hb hrt hml hhd hown hmn hts hEx hN hlocks hK hS hP1 hL (fun q hq => (hF1 q hq).trans (hF q hq)) (by have z1 := hP.1; have z2 := hP1.1; omega) (fun x hx => (List.mem_append.mp hx).elim (hlocs x) (hL1 x)) (by omega) (by omega)
                    obtain ⟨t, t1, t2⟩ := hW2 (T1.setVm vm') rfl X2
                    exact ⟨t, st1 t (st2 t t1), t2⟩
                · cases hr
              · cases hr
          · cases hr
        · cases hr
      · cases hr
    · cases hr
end SMZ
