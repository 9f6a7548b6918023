/-! A run of a method that ends in 'throw new ..' -/
def sm_thr (q : sm_I) : Option Nat := match q with
  | (.new _, _, [a, x]) => if a = 1000 then some x else none
  | _ => none
/-- the cell of an exception of class number x -/
def sm_exc (x : Nat) : sm_E := .inr (x, List.replicate 6 .null)
def sm_runT (P : Nat → Option sm_M) : Nat → Nat → Nat → Nat → sm_L → List Value → sm_H → Option (Nat × sm_H)
  | 0, _, _, _, _, _, _ => none
  | n + 1, d, m, pc, ls, st, h => match P m with
    | none => none
    | some (_, _, tab) => match tab[pc]? with
      | some (some q) => match sm_thr q with
        | some x => if st = [] then some (x, h ++ [sm_exc x]) else none
        | none => match sm_step q pc ls st h with
          | some (.inl (pc', ls', st', h')) => sm_runT P n d m pc' ls' st' h'
          | some (.inr (.inl _)) => none
          | some (.inr (.inr (m', as, r))) => match d, P m' with
            | d' + 1, some (nl, _, _) => if (sm_slots as).length ≤ nl ∧ (r.map fun v => v.category).sum ≤ 8 then (match sm_run P n d' m' 0 (sm_entry nl as) [] h with
              | some (v, h') => sm_runT P n d m (pc + 3) ls (sm_back v r) h'
              | none => none) else none
            | _, _ => none
          | none => none
      | _ => none
theorem sm_runT_mono {P : Nat → Option sm_M} : ∀ (n d m pc : Nat) (ls : sm_L) (st : List Value) (h : sm_H) (x : Nat) (h' : sm_H), sm_runT P n d m pc ls st h = some (x, h') → h.length ≤ h'.length ∧ sm_sl h ≤ sm_sl h' := by
  intro n
  induction n with
  | zero => intro d m pc ls st h v h' hr; simp [sm_runT] at hr
  | succ n ih =>
    intro d m pc ls st h v h' hr
    unfold sm_runT at hr
    split at hr
    · cases hr
    · split at hr
      · split at hr
        · split at hr
          · cases hr; exact ⟨by simp, by rw [sm_sl_app]; exact Nat.le_add_right _ _⟩
          · cases hr
        · split at hr
          · next hs =>
            have h1 := sm_step_mono hs
            have h2 := ih _ _ _ _ _ _ _ _ hr
            exact ⟨Nat.le_trans h1.1 h2.1, Nat.le_trans h1.2 h2.2⟩
          · cases hr
          · split at hr
            · split at hr
              · split at hr
                · next hc =>
                  have g1 := sm_run_mono _ _ _ _ _ _ _ _ _ hc
                  have g2 := ih _ _ _ _ _ _ _ _ hr
                  exact ⟨Nat.le_trans g1.1 g2.1, Nat.le_trans g1.2 g2.2⟩
                · cases hr
              · cases hr
            · cases hr
          · cases hr
      · cases hr
/-- what the tables must hold of 'throw new ..' at a place; ex: words that hold in every later state -/
def sm_okT (Ts : List Cond) (sx : List (String × Nat × String × Nat)) (ex : List Cond) (cl : List vw_C) (own : String) (bytes : ByteArray) (pc ix x : Nat) : Prop :=
  ∃ (X tx : String) (T : u_T) (il ic n pi : Nat) (names : List String), cl[x]? = some (X, T, 0) ∧ Cond.classLink own ix X ∈ Ts ∧ Cond.instantiable X 6 ∈ Ts ∧ Cond.initialized X ∈ Ts ∧ Bundle.fit X = true ∧ (∀ n ∈ names, Bundle.fit n = true) ∧ names.length ≤ 3 ∧
    sm_atomsOf own ic X names (fun a => a ∈ Ts ∨ a ∈ ex) ∧ (own, il, tx, n) ∈ sx ∧ decode bytes (pc + 3) = .ok (.dup, 1) ∧ ((decode bytes (pc + 4) = .ok (.ldc il, 2) ∧ pi = pc + 6) ∨ (decode bytes (pc + 4) = .ok (.ldc_w il, 3) ∧ pi = pc + 7)) ∧ decode bytes pi = .ok (.invokespecial ic, 3) ∧ decode bytes (pi + 3) = .ok (.athrow, 1)
/-- words that stay as long as the statics' cells stay -/
def sm_Ex (ex : List Cond) (N0 : Nat) (s : State) : Prop := ∀ a ∈ ex, ∀ (v : Array Value) (U : State), s.WarmedH U.vm → (∀ q, q < N0 → U.heap[q]? = s.heap[q]?) → a.before v U = true
theorem sm_Ex.at_ {ex : List Cond} {N0 : Nat} {s U : State} (h : sm_Ex ex N0 s) (hW : s.WarmedH U.vm) (hF : ∀ q, q < N0 → U.heap[q]? = s.heap[q]?) : sm_Ex ex N0 U := fun a ha v V h1 h2 => h a ha v V (hW.trans h1) (fun q hq => (h2 q hq).trans (hF q hq))
def sm_roomT (d mc ms : Nat) : Room := { frames := d + 8, cells := mc, slots := ms, locals := 64 * d + 160 }
section SMV
variable {l : Launch} {D : va_G} {cl : List vw_C} {tys : List (ClassId × FieldType)} {N0 : Nat} {cs : Nat → Nat} {Ts : List Cond} {sx : List (String × Nat × String × Nat)} {zx : List (String × String × String × Nat)} {oc : (List (Nat × Nat × String × String × String × Value) × List (String × Nat × MethodName × String) × List MethodName)} {K : sm_H} {Y : Nat → sm_Y} {P : Nat → Option sm_M} {ex : List Cond}
/-- what holds when a method has thrown -/
def sm_QT (D : va_G) (cl : List vw_C) (tys : List (ClassId × FieldType)) (N0 : Nat) (cs : Nat → Nat) (K : sm_H) (s : State) (below : List Frame) (h : sm_H) (mc ms : Nat) (t : State) : Prop :=
  t.status = .running ∧ Ended t below (.threw (sm_ad N0 cs (h.length - 1))) ∧ s.WarmedH t.vm ∧ (∃ L, s.sameButNew ({ t with vm := s.vm } : State) L mc ms ∧ ∀ q ∈ L, N0 ≤ q.base) ∧ sm_P D cl tys N0 cs K h t.heap ∧ ∀ q, q < N0 → t.heap[q]? = s.heap[q]?
set_option maxHeartbeats 4000000 in
theorem sm_soundT (hG : sm_Good Ts sx zx oc K cl Y P) (hgw : ∀ w ∈ Ts, goodWord w = true) (hT : sm_T tys) (hfl : l.flags = pinnedFlags ++ [noTraceFlag])
    (hGT : ∀ mi M pc q x, P mi = some M → M.2.2[pc]? = some (some q) → sm_thr q = some x → ∃ ix, q.1 = .new ix ∧ sm_okT Ts sx ex cl (Y mi).1.cls (Y mi).2.1 pc ix x) : ∀ (n d mi pc : Nat) (ls : sm_L) (st : List Value) (h : sm_H) (x : Nat) (h' : sm_H) (M : sm_M), P mi = some M → sm_runT P n d mi pc ls st h = some (x, h') → ls.length = M.1 →
  ∀ (p : Program) (e : Env) (s : State) (m : MethodId) (args : Array Value) (below : List Frame) (meth : Method) (c : Code) (H : Heap) (locs : List Loc) (LS : Array Slot) (h0 : sm_H), p.tables.exec = Jvm.exec → c.code = (Y mi).2.1 → c.maxLocals = M.1 → c.exceptionTable.toList = [] → s.vm.findClass (Y mi).1.cls = some m.cls → meth.name = (Y mi).1.name → (∀ w ∈ Ts, w.before args s = true) → sm_Ex ex N0 s → meth.locks = false → va_K D cl tys s → sm_X cl K sx zx oc N0 cs s →
    sm_P D cl tys N0 cs K h H → sm_LR (sm_ad N0 cs) ls LS → (∀ q, q < N0 → H[q]? = s.heap[q]?) → s.heap.size ≤ H.size → (∀ x ∈ locs, N0 ≤ x.base) → h0.length ≤ h.length → sm_sl h0 ≤ sm_sl h →
    W p l e (sm_roomT d (h'.length - h0.length) (sm_sl h' - sm_sl h0)) s m args below meth c H locs (h.length - h0.length) (sm_sl h - sm_sl h0) (sm_QT D cl tys N0 cs K s below h' (h'.length - h0.length) (sm_sl h' - sm_sl h0)) (F0 m pc LS (st.map (sm_mv (sm_ad N0 cs)))) := by
  intro n
  induction n with
  | zero => intro d mi pc ls st h v h' M hM hr; simp [sm_runT] at hr
  | succ n ih =>
    intro d mi pc ls st h x h' M hM hr hlen p e s m args below meth c H locs LS h0 hx hb hml hnoh hown hmn hts hEx hlocks hK hS hP hL hF hZ0 hlocs hz1 hz2
    obtain ⟨g1, g2, g3, g4, g5, g6⟩ := hG mi M hM
    have hgt := hGT mi M pc
    obtain ⟨nl, kr, tab⟩ := M
    unfold sm_runT at hr
    rw [hM] at hr
    dsimp only at hr hlen hml g1 g4 g5 g6 hgt
    split at hr
    · next q hq =>
      obtain ⟨d1, d2, d3, d4⟩ := g6 pc q hq
      split at hr
      · next x1 hthr =>
        obtain ⟨ix, hqi, X, tx, TX, il, ic, nn, pi, names, o1, o2, o3, o4, o5, o6, o7, o8, o9, o10, o11, o12, o13⟩ := hgt q x1 hM hq hthr
        split at hr
        · next hst =>
          cases hr
          subst hst
          obtain ⟨i, len, rs⟩ := q
          dsimp only at d1 d2 hqi
          subst hqi
          simp only [sm_lenOk, beq_iff_eq] at d2
          subst d2
          have hsl : sm_sl (h ++ [sm_exc x]) = sm_sl h + 6 := by rw [sm_sl_app]; simp [sm_exc, sm_sz]
          have hln : (h ++ [sm_exc x]).length = h.length + 1 := by simp
          intro T hT2 X0
          have htr := Launch.traces_off hfl X0.admits
          have hW := sm_throwW (X := X) (tx := tx) (names := names) (Ts := Ts) (st := []) (pi := pi) (H := H) (locs := locs) (cells := h.length - h0.length) (slots := sm_sl h - sm_sl h0) (R := sm_roomT d ((h ++ [sm_exc x]).length - h0.length) (sm_sl (h ++ [sm_exc x]) - sm_sl h0)) (p := p) (l := l) (e := e) (s := s) (m := m) (args := args) (below := below) (meth := meth) (c := c) (LS := LS) (pc := pc) (cc := (Y mi).2.1) hx htr hb (by rw [hml, ← hlen, hL.1]) hlocks hnoh hown hts hgw o2 o3 o4 o5 o6 (o8.mono (fun a ha => by
              rcases ha with z | z
              · exact Or.inl z
              · exact Or.inr (fun U hU1 hU2 => hEx a z args U hU1 (fun q hq => by rw [hU2]; exact hF q hq)))) (hS.1 _ o9) ⟨by show _ ≤ (h ++ [sm_exc x]).length - h0.length; omega, by show _ ≤ sm_sl (h ++ [sm_exc x]) - sm_sl h0; omega⟩ (by show names.length + 3 < d + 8; omega) (by show 0 + _ ≤ 64 * d + 160; omega) d1 o10 o11 o12 o13
          obtain ⟨t, t1, t2⟩ := hW T hT2 X0
          refine ⟨t, t1, ?_⟩
          obtain ⟨u1, u2, u3, u4, u5, u6, ce, u7, u8, u9⟩ := t2
          have hPs := hP.1
          have hPl := hP.2.1
          have hnew : sm_P D cl tys N0 cs K (h ++ [sm_exc x]) t.heap := by
            refine hP.make ⟨_, o1, ce, u7, ?_, u9, fun k hk => absurd hk (Nat.not_lt_zero k)⟩ u5 u6
            exact Option.some.inj (u8.symm.trans (hK.1 x _ o1).2.1)
          refine ⟨u1, ?_, u3, ⟨locs, ?_, hlocs⟩, hnew, fun q hq => (u6 q (by omega)).trans (hF q hq)⟩
          · rw [hln, Nat.add_sub_cancel, sm_ad_ge hPl, show N0 + (h.length - sm_C) = H.size by omega]
            exact u2
          · rw [hln, hsl]
            have e1 : h.length - h0.length + 1 = h.length + 1 - h0.length := by omega
            have e2 : sm_sl h - sm_sl h0 + 6 = sm_sl h + 6 - sm_sl h0 := by omega
            rw [e1, e2] at u4
            exact u4
        · cases hr
      · obtain ⟨i, len, rs⟩ := q
        dsimp only at d1 d2 d3 d4
        split at hr
        · next pc1 ls1 st1 h1 hs =>
          have hm1 := sm_step_mono hs
          have hm2 := sm_runT_mono _ _ _ _ _ _ _ _ _ hr
          refine sm_next (h' := h1) hx hb hts hown hK hT hS hF hZ0 (by rw [hmn]; exact d3) d2 d1 hP hL hlocs ⟨by show 2 ≤ d + 8; omega, by show 43 ≤ 64 * d + 160; omega⟩ (by rw [hml, hlen]) ⟨by show _ ≤ h'.length - h0.length; omega, by show _ ≤ sm_sl h' - sm_sl h0; omega⟩ hs ?_
          intro H' locs' LS' hP' hL' hF' hlocs'
          have e1 : h.length - h0.length + (h1.length - h.length) = h1.length - h0.length := by omega
          have e2 : sm_sl h - sm_sl h0 + (sm_sl h1 - sm_sl h) = sm_sl h1 - sm_sl h0 := by omega
          rw [e1, e2]
          exact ih d mi pc1 ls1 st1 h1 x h' _ hM hr (by rw [sm_step_len hs]; exact hlen) p e s m args below meth c H' locs' LS' h0 hx hb hml hnoh hown hmn hts hEx hlocks hK hS hP' hL' (fun q hq => (hF' q hq).trans (hF q hq)) (by have z1 := hP.1; have z2 := hP'.1; omega) hlocs' (by omega) (by omega)
        · cases hr
        · next m1 as r hs =>
          split at hr
          · next d1' nl1 k1 tab1 hM1 =>
            split at hr
            · next hc =>
              obtain ⟨hc1, hc2⟩ := hc
              split at hr
              · next v1 h1 hcall =>
                have hm1 := sm_run_mono _ _ _ _ _ _ _ _ _ hcall
                have hm2 := sm_runT_mono _ _ _ _ _ _ _ _ _ hr
                refine sm_callW hG hgw hT hx hb hml hown hts hK hS hP (hL.1.trans hlen) hF hlocs d1 d2 d4 hs hM1 hc1 hc2 hcall (by show d1' + 3 ≤ d1' + 1 + 8; omega) (by show 64 * d1' + 128 ≤ 64 * (d1' + 1) + 160; omega) ⟨by show _ ≤ h'.length - h0.length; omega, by show _ ≤ sm_sl h' - sm_sl h0; omega⟩ ?_
                intro H1 locs1 hP1 hF1 hl1
                have e1 : h.length - h0.length + (h1.length - h.length) = h1.length - h0.length := by omega
                have e2 : sm_sl h - sm_sl h0 + (sm_sl h1 - sm_sl h) = sm_sl h1 - sm_sl h0 := by omega
                rw [e1, e2]
                exact ih (d1' + 1) mi (pc + 3) ls (sm_back v1 r) h1 x h' _ hM hr hlen p e s m args below meth c H1 locs1 LS h0 hx hb hml hnoh hown hmn hts hEx hlocks hK hS hP1 hL (fun q hq => (hF1 q hq).trans (hF q hq)) (by have z1 := hP.1; have z2 := hP1.1; omega) hl1 (by omega) (by omega)
              · cases hr
            · cases hr
          · cases hr
        · cases hr
    · cases hr
end SMV
