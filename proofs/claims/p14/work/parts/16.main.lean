/-! THE SOUNDNESS THEOREM -/
section SMM
variable {l : Launch} {D : va_G} {cl : List vw_C} {tys : List (ClassId × FieldType)} {N0 : Nat} {cs : Nat → Nat} {Ts : List Cond} {sx : List (String × Nat × String × Nat)} {zx : List (String × String × String × Nat)} {oc : (List (Nat × Nat × String × String × String × Value) × List (String × Nat × MethodName × String) × List MethodName)} {K : sm_H} {Y : Nat → sm_Y} {P : Nat → Option sm_M}
/-- a run from any place of a method leads the JVM to the method's end -/
def sm_Cl (l : Launch) (D : va_G) (cl : List vw_C) (tys : List (ClassId × FieldType)) (N0 : Nat) (cs : Nat → Nat) (Ts : List Cond) (sx : List (String × Nat × String × Nat)) (zx : List (String × String × String × Nat)) (oc : (List (Nat × Nat × String × String × String × Value) × List (String × Nat × MethodName × String) × List MethodName)) (K : sm_H) (Y : Nat → sm_Y) (P : Nat → Option sm_M) (n : Nat) : Prop :=
  ∀ (d mi pc : Nat) (ls : sm_L) (st : List Value) (h : sm_H) (v : Option Value) (h' : sm_H) (M : sm_M), P mi = some M → sm_run P n d mi pc ls st h = some (v, h') → ls.length = M.1 →
  ∀ (p : Program) (e : Env) (s : State) (m : MethodId) (args : Array Value) (below : List Frame) (meth : Method) (c : Code) (H : Heap) (locs : List Loc) (LS : Array Slot) (h0 : sm_H), p.tables.exec = Jvm.exec → c.code = (Y mi).2.1 → meth.sig.returnType = (Y mi).2.2 → c.maxLocals = M.1 → s.vm.findClass (Y mi).1.cls = some m.cls → meth.name = (Y mi).1.name → (∀ w ∈ Ts, w.before args s = true) → meth.locks = false → va_K D cl tys s → sm_X cl K sx zx oc N0 cs s →
    sm_P D cl tys N0 cs K h H → sm_LR (sm_ad N0 cs) ls LS → (∀ q, q < N0 → H[q]? = s.heap[q]?) → s.heap.size ≤ H.size → (∀ x ∈ locs, N0 ≤ x.base) → h0.length ≤ h.length → sm_sl h0 ≤ sm_sl h →
    W p l e (sm_room d (h'.length - h0.length) (sm_sl h' - sm_sl h0)) s m args below meth c H locs (h.length - h0.length) (sm_sl h - sm_sl h0) (MQ below (sm_Qc D cl tys N0 cs K v h') args s (h'.length - h0.length) (sm_sl h' - sm_sl h0) (fun q => N0 ≤ q)) (F0 m pc LS (st.map (sm_mv (sm_ad N0 cs))))
/-- a contract out of a run from the start -/
theorem sm_metof {n : Nat} (hC : sm_Cl l D cl tys N0 cs Ts sx zx oc K Y P n) (hG : sm_Good Ts sx zx oc K cl Y P) {d mi : Nat} {M : sm_M} {as : List Value} {h h' : sm_H} {v : Option Value} (hM : P mi = some M) (hr : sm_run P n d mi 0 (sm_entry M.1 as) [] h = some (v, h')) (hl : (sm_slots as).length ≤ M.1) :
    Met l (Y mi).1 (Cond.code (Y mi).1 (Y mi).2.1 M.1 (Y mi).2.2 :: Ts) (sm_room d (h'.length - h.length) (sm_sl h' - sm_sl h)) (sm_Pc D cl tys sx zx oc K N0 cs as h) (sm_Qc D cl tys N0 cs K v h') (h'.length - h.length) (sm_sl h' - sm_sl h) (fun q => N0 ≤ q) := by
  obtain ⟨-, g2, -⟩ := hG mi M hM
  refine Met.ofW (cc := (Y mi).2.1) (maxL := M.1) (ret := (Y mi).2.2) g2 rfl ?_
  intro p e s m args below meth c s₁ B hml hv
  obtain ⟨rfl, hP, hK, hS⟩ := hv
  have hts := atoms_spec (ws := Cond.code (Y mi).1 (Y mi).2.1 M.1 (Y mi).2.2 :: Ts) B.pre
  rw [lg_entry_eq]
  have := hC d mi 0 (sm_entry M.1 as) [] h v h' M hM hr (by simp [sm_entry]; omega) p e s m _ below meth c s.heap [] _ h B.exec B.bytes B.returns hml (findClass_of_methodNamed B.named) (name_of_methodNamed B.named B.method).1 (fun w hw => hts w (List.mem_cons_of_mem _ hw)) B.notSynchronized hK hS hP (sm_entry_LR hl) (fun _ _ => rfl) (Nat.le_refl _) (fun x hx => by cases hx) (Nat.le_refl _) (Nat.le_refl _)
  rw [Nat.sub_self, Nat.sub_self] at this
  exact this
theorem sm_goodIn (hgw : ∀ w ∈ Ts, goodWord w = true) {w0 : Cond} (h0 : w0 ∈ Ts) : GoodIn Ts (w0 :: Ts) := fun w hw => by
  have hm : w ∈ Ts := (List.mem_cons.mp hw).elim (fun z => z ▸ h0) id
  exact ⟨hm, good_of_word (hgw w hm)⟩
theorem sm_back_eq {ad : Nat → Nat} {v : Option Value} {r : List Value} : (sm_back v r).map (sm_mv ad) = (v.map (sm_mv ad)).toList ++ r.map (sm_mv ad) := by
  cases v <;> rfl
theorem sm_catsum {ad : Nat → Nat} {r : List Value} (h : (r.map fun v => v.category).sum ≤ 8) : 2 * 0 + ((r.map (sm_mv ad)).map fun v => v.category).sum ≤ 8 := by
  rw [List.map_map, show ((fun v : Value => v.category) ∘ sm_mv ad) = fun v : Value => v.category from funext fun v => sm_cat _ v]
  omega
set_option maxHeartbeats 4000000 in
theorem sm_sound (hG : sm_Good Ts sx zx oc K cl Y P) (hgw : ∀ w ∈ Ts, goodWord w = true) (hT : sm_T tys) : ∀ n, sm_Cl l D cl tys N0 cs Ts sx zx oc K Y P n := by
  intro n
  induction n with
  | zero => intro d mi pc ls st h v h' M hM hr; simp [sm_run] at hr
  | succ n ih =>
    intro d mi pc ls st h v h' M hM hr hlen p e s m args below meth c H locs LS h0 hx hb hrt hml hown hmn hts hlocks hK hS hP hL hF hZ0 hlocs hz1 hz2
    obtain ⟨g1, g2, g3, g4, g5, g6⟩ := hG mi M hM
    obtain ⟨nl, kr, tab⟩ := M
    have hmono := sm_run_mono _ _ _ _ _ _ _ _ _ hr
    unfold sm_run at hr
    rw [hM] at hr
    dsimp only at hr hlen hml g1 g4 g5 g6
    split at hr
    · next q hq =>
      obtain ⟨d1, d2, d3, d4⟩ := g6 pc q hq
      obtain ⟨i, len, rs⟩ := q
      dsimp only at d1 d2 d3 d4
      split at hr
      · next pc1 ls1 st1 h1 hs =>
        have hm1 := sm_step_mono hs
        have hm2 := sm_run_mono _ _ _ _ _ _ _ _ _ hr
        refine sm_next (h' := h1) hx hb hts hown hK hT hS hF hZ0 (by rw [hmn]; exact d3) d2 d1 hP hL hlocs ⟨by show 2 ≤ d + 2; omega, by show 43 ≤ 64 * d + 64; omega⟩ (by rw [hml, hlen]) ⟨by show _ ≤ h'.length - h0.length; omega, by show _ ≤ sm_sl h' - sm_sl h0; omega⟩ hs ?_
        intro H' locs' LS' hP' hL' hF' hlocs'
        have e1 : h.length - h0.length + (h1.length - h.length) = h1.length - h0.length := by omega
        have e2 : sm_sl h - sm_sl h0 + (sm_sl h1 - sm_sl h) = sm_sl h1 - sm_sl h0 := by omega
        rw [e1, e2]
        exact ih d mi pc1 ls1 st1 h1 v h' _ hM hr (by rw [sm_step_len hs]; exact hlen) p e s m args below meth c H' locs' LS' h0 hx hb hrt hml hown hmn hts hlocks hK hS hP' hL' (fun q hq => (hF' q hq).trans (hF q hq)) (by have z1 := hP.1; have z2 := hP'.1; omega) hlocs' (by omega) (by omega)
      · next v1 hs =>
        split at hr
        · next hkr =>
          cases hr
          have hQQ : ∀ (o : Option Value) (t : State), o = v.map (sm_mv (sm_ad N0 cs)) → t.heap = H → sm_Qc D cl tys N0 cs K v h args s (.returned o) t := fun o t ho ht => ⟨by rw [ho], by rw [ht]; exact hP, fun q hq => by rw [ht]; exact hF q hq⟩
          rcases sm_ret_inv hs with ⟨rfl, x, rfl, rfl⟩ | ⟨rfl, x, rfl, rfl⟩ | ⟨rfl, x, rfl, rfl⟩ | ⟨rfl, rfl, rfl⟩
          · simp only [sm_lenOk, beq_iff_eq] at d2
            subst d2
            rcases g5 with ⟨rfl, -⟩ | ⟨rfl, h5⟩ | ⟨rfl, -⟩ | ⟨rfl, -⟩ | ⟨rfl, h5⟩ | ⟨rfl, h5⟩ | ⟨rfl, h5⟩
            · simp [sm_okret] at hkr
            · exact W.iret hx hb (hrt.trans h5) (fun t ht _ => hQQ _ t rfl ht) hlocs d1 (hlocks := hlocks)
            · simp [sm_okret] at hkr
            · simp [sm_okret] at hkr
            · exact W.zret hx hb (hrt.trans h5) (sm_fit_ok (ad := id) (t := 3) (v := .int x) (by simpa [sm_okret, sm_fit] using hkr) (Or.inr (Or.inr (Or.inr (Or.inl ⟨rfl, rfl⟩))))).1 (fun t ht _ => hQQ _ t rfl ht) hlocs d1 (hlocks := hlocks)
            · exact W.zret hx hb (hrt.trans h5) (sm_fit_ok (ad := id) (t := 4) (v := .int x) (by simpa [sm_okret, sm_fit] using hkr) (Or.inr (Or.inr (Or.inr (Or.inr ⟨rfl, rfl⟩))))).1 (fun t ht _ => hQQ _ t rfl ht) hlocs d1 (hlocks := hlocks)
            · have hb2 : x = 0 ∨ x = 1 := by simpa [sm_okret] using hkr
              exact W.zret hx hb (hrt.trans h5) (by rcases hb2 with rfl | rfl <;> rfl) (fun t ht _ => hQQ _ t rfl ht) hlocs d1 (hlocks := hlocks)
          · simp only [sm_lenOk, beq_iff_eq] at d2
            subst d2
            rcases g5 with ⟨rfl, -⟩ | ⟨rfl, -⟩ | ⟨rfl, h5⟩ | ⟨rfl, -⟩ | ⟨rfl, -⟩ | ⟨rfl, -⟩ | ⟨rfl, h5⟩
            · simp [sm_okret] at hkr
            · simp [sm_okret] at hkr
            · exact W.lret hx hb (hrt.trans h5) (fun t ht _ => hQQ _ t rfl ht) hlocs d1 (hlocks := hlocks)
            · simp [sm_okret] at hkr
            · simp [sm_okret] at hkr
            · simp [sm_okret] at hkr
            · simp [sm_okret] at hkr
          · simp only [sm_lenOk, beq_iff_eq] at d2
            subst d2
            rcases g5 with ⟨rfl, -⟩ | ⟨rfl, -⟩ | ⟨rfl, -⟩ | ⟨rfl, h5⟩ | ⟨rfl, -⟩ | ⟨rfl, -⟩ | ⟨rfl, h5⟩
            · simp [sm_okret] at hkr
            · simp [sm_okret] at hkr
            · simp [sm_okret] at hkr
            · rcases h5 with ⟨nm, h5⟩ | ⟨nm, h5⟩
              · exact W.aret hx hb (hrt.trans h5) (Or.inl ⟨_, rfl⟩) (Or.inr ⟨_, rfl⟩) (fun t ht _ => hQQ _ t rfl ht) hlocs d1 (hlocks := hlocks)
              · exact W.aret hx hb (hrt.trans h5) (Or.inr ⟨_, rfl⟩) (Or.inr ⟨_, rfl⟩) (fun t ht _ => hQQ _ t rfl ht) hlocs d1 (hlocks := hlocks)
            · simp [sm_okret] at hkr
            · simp [sm_okret] at hkr
            · simp [sm_okret] at hkr
          · simp only [sm_lenOk, beq_iff_eq] at d2
            subst d2
            rcases g5 with ⟨rfl, h5⟩ | ⟨rfl, -⟩ | ⟨rfl, -⟩ | ⟨rfl, -⟩ | ⟨rfl, -⟩ | ⟨rfl, -⟩ | ⟨rfl, h5⟩
            · exact W.vret hx hb (hrt.trans h5) (fun t ht _ => hQQ _ t rfl ht) hlocs d1 (hlocks := hlocks)
            · simp [sm_okret] at hkr
            · simp [sm_okret] at hkr
            · simp [sm_okret] at hkr
            · simp [sm_okret] at hkr
            · simp [sm_okret] at hkr
            · simp [sm_okret] at hkr
        · cases hr
      · next m1 as r hs =>
        split at hr
        · next d1' nl1 k1 tab1 hM1 =>
          split at hr
          · next hc =>
            obtain ⟨hc1, hc2⟩ := hc
            split at hr
            · next v1 h1 hcall =>
              have hm1 := sm_run_mono _ _ _ _ _ _ _ _ _ hcall
              have hm2 := sm_run_mono _ _ _ _ _ _ _ _ _ hr
              obtain ⟨q1, q2, q3, q4, -, -⟩ := hG m1 _ hM1
              dsimp only at q1 q4
              have hMet := sm_metof (as := as) ih hG hM1 hcall hc1
              have hgi := sm_goodIn hgw q1
              have hfits : h.length - h0.length + (h1.length - h.length) ≤ (sm_room (d1' + 1) (h'.length - h0.length) (sm_sl h' - sm_sl h0)).cells ∧ sm_sl h - sm_sl h0 + (sm_sl h1 - sm_sl h) ≤ (sm_room (d1' + 1) (h'.length - h0.length) (sm_sl h' - sm_sl h0)).slots := ⟨by show _ ≤ h'.length - h0.length; omega, by show _ ≤ sm_sl h' - sm_sl h0; omega⟩
              have hroom : (sm_room d1' (h1.length - h.length) (sm_sl h1 - sm_sl h)).frames + 1 ≤ (sm_room (d1' + 1) (h'.length - h0.length) (sm_sl h' - sm_sl h0)).frames ∧ 8 + (nl1 + 11) + (sm_room d1' (h1.length - h.length) (sm_sl h1 - sm_sl h)).locals ≤ (sm_room (d1' + 1) (h'.length - h0.length) (sm_sl h' - sm_sl h0)).locals := ⟨by show d1' + 2 + 1 ≤ d1' + 1 + 2; omega, by show 8 + (nl1 + 11) + (64 * d1' + 64) ≤ 64 * (d1' + 1) + 64; omega⟩
              have hpre : ∀ U : State, U.heap = H → s.WarmedH U.vm → sm_Pc D cl tys sx zx oc K N0 cs as h (as.map (sm_mv (sm_ad N0 cs))).toArray U := fun U hU hW => ⟨rfl, by rw [hU]; exact hP, va_K.moved hW.alike hK, hS.at_ hW (fun q hq => by rw [hU]; exact hF q hq)⟩
              have hfix : CallFix p m c (Y mi).2.1 nl s args Ts (Y mi).1.cls := ⟨hx, hb, hml, hown, hts⟩
              have hsz : LS.size = nl := hL.1.trans hlen
              have goOn : ∀ (a : Array Value), va_Run p l e (sm_room (d1' + 1) (h'.length - h0.length) (sm_sl h' - sm_sl h0)) s m args below meth c H locs (h.length - h0.length) (sm_sl h - sm_sl h0) (h1.length - h.length) (sm_sl h1 - sm_sl h) (F0 m pc LS (st.map (sm_mv (sm_ad N0 cs)))) (r.map (sm_mv (sm_ad N0 cs))) (sm_Qc D cl tys N0 cs K v1 h1 a) (fun q => N0 ≤ q) →
                  W p l e (sm_room (d1' + 1) (h'.length - h0.length) (sm_sl h' - sm_sl h0)) s m args below meth c H locs (h.length - h0.length) (sm_sl h - sm_sl h0) (MQ below (sm_Qc D cl tys N0 cs K v h') args s (h'.length - h0.length) (sm_sl h' - sm_sl h0) (fun q => N0 ≤ q)) (F0 m pc LS (st.map (sm_mv (sm_ad N0 cs)))) := by
                intro a hrun
                refine sm_after hrun hlocs fun H1 locs1 hP1 hF1 hl1 => ?_
                have e1 : h.length - h0.length + (h1.length - h.length) = h1.length - h0.length := by omega
                have e2 : sm_sl h - sm_sl h0 + (sm_sl h1 - sm_sl h) = sm_sl h1 - sm_sl h0 := by omega
                rw [e1, e2, ← sm_back_eq]
                exact ih (d1' + 1) mi (pc + 3) ls (sm_back v1 r) h1 v h' _ hM hr hlen p e s m args below meth c H1 locs1 LS h0 hx hb hrt hml hown hmn hts hlocks hK hS hP1 hL (fun q hq => (hF1 q hq).trans (hF q hq)) (by have z1 := hP.1; have z2 := hP1.1; omega) hl1 (by omega) (by omega)
              rcases sm_call_inv hs with ⟨idx, k, n1, rfl, rfl, ha⟩ | ⟨idx, k, n1, b, bs, rfl, rfl, ha, rfl⟩ | ⟨idx, k, n1, ps, b, bs, ci, fs, rfl, rfl, ha, rfl, hbc, hpk⟩
              · simp only [sm_lenOk, beq_iff_eq] at d2
                subst d2
                obtain ⟨w1, w2, w3, w4⟩ := d4
                obtain ⟨ea, el⟩ := sm_args_inv ha
                have hst : (st.map (sm_mv (sm_ad N0 cs))) = (as.map (sm_mv (sm_ad N0 cs))).reverse ++ r.map (sm_mv (sm_ad N0 cs)) := by rw [ea, List.map_append, List.map_reverse]
                rcases w4 with w4 | ⟨host, w4⟩
                · exact goOn _ (va_runS (As := as.map (sm_mv (sm_ad N0 cs))) hfix hMet ⟨callB_of n1 hts hgi rfl rfl rfl (hts _ w2) (hts _ w4) ⟨q3.1, q3.2, w3⟩ hroom, hts _ w1⟩ ⟨sm_blind, hpre⟩ rfl (by rw [List.length_map]; exact el) hsz hst (sm_catsum hc2) d1 hfits)
                · exact goOn _ (va_runSN (As := as.map (sm_mv (sm_ad N0 cs))) hfix hMet ⟨va_cnB n1 hts hgi rfl rfl rfl (hS.2.2.2.1 _ w4) (hts _ w2) ⟨q3.1, q3.2, w3⟩ hroom, hts _ w1, trivial⟩ ⟨sm_blind, hpre⟩ rfl (by rw [List.length_map]; exact el) hsz hst (sm_catsum hc2) d1 hfits)
              · simp only [sm_lenOk, beq_iff_eq] at d2
                subst d2
                obtain ⟨w0, w1, w2, w3, ⟨k2, rfl, w4⟩, w5⟩ := d4
                obtain ⟨ea, el⟩ := sm_args_inv ha
                have hst : (st.map (sm_mv (sm_ad N0 cs))) = (bs.map (sm_mv (sm_ad N0 cs))).reverse ++ .ref (sm_ad N0 cs b) :: r.map (sm_mv (sm_ad N0 cs)) := by rw [ea]; simp [sm_mv]
                rw [w1] at hMet hgi
                rcases w5 with w5 | ⟨host, w5⟩
                · exact goOn _ (va_runI (As := bs.map (sm_mv (sm_ad N0 cs))) hfix hMet ⟨callB_of k2 hts hgi rfl rfl rfl (hts _ w3) (hts _ w5) ⟨q3.1, q3.2, w4⟩ hroom, w0, hts _ w2⟩ ⟨sm_blind, hpre⟩ rfl (by rw [List.length_map]; simpa using el) hsz hst (sm_catsum hc2) d1 hfits)
                · exact goOn _ (va_runIN (As := bs.map (sm_mv (sm_ad N0 cs))) hfix hMet ⟨va_cnB k2 hts hgi rfl rfl rfl (hS.2.2.2.1 _ w5) (hts _ w3) ⟨q3.1, q3.2, w4⟩ hroom, w0, hts _ w2⟩ ⟨sm_blind, hpre⟩ rfl (by rw [List.length_map]; simpa using el) hsz hst (sm_catsum hc2) d1 hfits)
              · simp only [sm_lenOk, beq_iff_eq] at d2
                subst d2
                obtain ⟨C, w1, w2, w3, w4⟩ := d4 ci m1 hpk
                obtain ⟨ea, el⟩ := sm_args_inv ha
                have hst : (st.map (sm_mv (sm_ad N0 cs))) = (bs.map (sm_mv (sm_ad N0 cs))).reverse ++ .ref (sm_ad N0 cs b) :: r.map (sm_mv (sm_ad N0 cs)) := by rw [ea]; simp [sm_mv]
                have hrc := sm_recv hP hS.2.2.2.2.2 hF hK hbc w1
                have hel : (bs.map (sm_mv (sm_ad N0 cs))).length = n1 := by rw [List.length_map]; simpa using el
                rcases w4 with ⟨u1, u2, u3⟩ | ⟨host, u1, u2, u3⟩ | ⟨x, owner, u1, u2, u3, u4, u5, u6⟩
                · exact goOn _ (va_runV (C := C) (As := bs.map (sm_mv (sm_ad N0 cs))) hfix hMet ⟨callB_of n1 hts hgi rfl rfl rfl (hts _ w3) (hts _ u1) ⟨q3.1, q3.2, u3⟩ hroom, hts _ w2, hts _ u2⟩ ⟨sm_blind, hrc, hpre⟩ rfl hel hsz hst (sm_catsum hc2) d1 hfits)
                · exact goOn _ (va_runVN (C := C) (As := bs.map (sm_mv (sm_ad N0 cs))) hfix hMet ⟨va_cnB n1 hts hgi rfl rfl rfl (hS.2.2.2.1 _ u1) (hts _ w3) ⟨q3.1, q3.2, u3⟩ hroom, hts _ w2, hts _ u2⟩ ⟨sm_blind, hrc, hpre⟩ rfl hel hsz hst (sm_catsum hc2) d1 hfits)
                · have hdecl : va_Decl s ⟨owner, x.name, x.desc⟩ := by
                    rcases u6 with u6 | ⟨u6, b0, m0, r0, u7⟩
                    · exact va_Decl.abs (hS.2.2.2.2.1.2 _ u6)
                    · exact va_Decl.of (hts _ u6) (hts _ u7)
                  exact goOn _ (va_runU (C := C) (As := bs.map (sm_mv (sm_ad N0 cs))) hfix hMet ⟨⟨rfl, rfl, hroom.1, hroom.2, pay_in hts hgi, List.mem_cons_self⟩, hts _ q1, hts _ w3, u3, (fun sig hsig => by have h2 := u5; unfold sm_par at h2; rw [hsig] at h2; exact (Option.some.inj h2).symm), hts _ u1, hts _ u2, hdecl, hts _ u4, hts _ w2⟩ ⟨sm_blind, hrc, hpre⟩ rfl hel hsz hst (sm_catsum hc2) d1 hfits)
            · cases hr
          · cases hr
        · cases hr
      · cases hr
    · cases hr
end SMM
