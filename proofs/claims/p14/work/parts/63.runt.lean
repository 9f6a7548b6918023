/-! A run of a method that ends in 'throw new ..' -/
def sm_thr (q : sm_I) : Option Nat := match q with
  | (.new _, _, [a, x]) => if a = 1000 then some x else none
  | _ => none
/-- the cell of an exception of class number x -/
def sm_exc (x : Nat) : sm_E := .inr (x, List.replicate 6 .null)
def sm_runT (P : Nat → Option sm_M) : Nat → Nat → Nat → Nat → sm_L → List Value → sm_H → Option (Nat × sm_H)
  | 0, _, _, _, _, _, _ => none
  | n + 1, d, m, pc, ls, st, h => match P m with
    | none => none
    | some (_, _, tab) => match tab[pc]? with
      | some (some q) => match sm_thr q with
        | some x => if st = [] then some (x, h ++ [sm_exc x]) else none
        | none => match sm_step q pc ls st h with
          | some (.inl (pc', ls', st', h')) => sm_runT P n d m pc' ls' st' h'
          | some (.inr (.inl _)) => none
          | some (.inr (.inr (m', as, r))) => match d, P m' with
            | d' + 1, some (nl, _, _) => if (sm_slots as).length ≤ nl ∧ (r.map fun v => v.category).sum ≤ 8 then (match sm_run P n d' m' 0 (sm_entry nl as) [] h with
              | some (v, h') => sm_runT P n d m (pc + 3) ls (sm_back v r) h'
              | none => none) else none
            | _, _ => none
          | none => none
      | _ => none
theorem sm_runT_mono {P : Nat → Option sm_M} : ∀ (n d m pc : Nat) (ls : sm_L) (st : List Value) (h : sm_H) (x : Nat) (h' : sm_H), sm_runT P n d m pc ls st h = some (x, h') → h.length ≤ h'.length ∧ sm_sl h ≤ sm_sl h' := by
  intro n
  induction n with
  | zero => intro d m pc ls st h v h' hr; simp [sm_runT] at hr
  | succ n ih =>
    intro d m pc ls st h v h' hr
    unfold sm_runT at hr
    split at hr
    · cases hr
    · split at hr
      · split at hr
        · split at hr
          · cases hr; exact ⟨by simp, by rw [sm_sl_app]; exact Nat.le_add_right _ _⟩
          · cases hr
        · split at hr
          · next hs =>
            have h1 := sm_step_mono hs
            have h2 := ih _ _ _ _ _ _ _ _ hr
            exact ⟨Nat.le_trans h1.1 h2.1, Nat.le_trans h1.2 h2.2⟩
          · cases hr
          · split at hr
            · split at hr
              · split at hr
                · next hc =>
                  have g1 := sm_run_mono _ _ _ _ _ _ _ _ _ hc
                  have g2 := ih _ _ _ _ _ _ _ _ hr
                  exact ⟨Nat.le_trans g1.1 g2.1, Nat.le_trans g1.2 g2.2⟩
                · cases hr
              · cases hr
            · cases hr
          · cases hr
      · cases hr
/-- what the tables must hold of 'throw new ..' at a place; ex: words that hold in every later state -/
def sm_okT (Ts : List Cond) (sx : List (String × Nat × String × Nat)) (ex : List Cond) (cl : List vw_C) (own : String) (bytes : ByteArray) (pc ix x : Nat) : Prop :=
  ∃ (X tx : String) (T : u_T) (il ic n pi : Nat) (names : List String), cl[x]? = some (X, T, 0) ∧ Cond.classLink own ix X ∈ Ts ∧ Cond.instantiable X 6 ∈ Ts ∧ Cond.initialized X ∈ Ts ∧ Bundle.fit X = true ∧ (∀ n ∈ names, Bundle.fit n = true) ∧ names.length ≤ 3 ∧
    sm_atomsOf own ic X names (fun a => a ∈ Ts ∨ a ∈ ex) ∧ (own, il, tx, n) ∈ sx ∧ decode bytes (pc + 3) = .ok (.dup, 1) ∧ ((decode bytes (pc + 4) = .ok (.ldc il, 2) ∧ pi = pc + 6) ∨ (decode bytes (pc + 4) = .ok (.ldc_w il, 3) ∧ pi = pc + 7)) ∧ decode bytes pi = .ok (.invokespecial ic, 3) ∧ decode bytes (pi + 3) = .ok (.athrow, 1)
/-- words that stay as long as the statics' cells stay -/
def sm_Ex (ex : List Cond) (N0 : Nat) (s : State) : Prop := ∀ a ∈ ex, ∀ (v : Array Value) (U : State), s.WarmedH U.vm → (∀ q, q < N0 → U.heap[q]? = s.heap[q]?) → a.before v U = true
theorem sm_Ex.at_ {ex : List Cond} {N0 : Nat} {s U : State} (h : sm_Ex ex N0 s) (hW : s.WarmedH U.vm) (hF : ∀ q, q < N0 → U.heap[q]? = s.heap[q]?) : sm_Ex ex N0 U := fun a ha v V h1 h2 => h a ha v V (hW.trans h1) (fun q hq => (h2 q hq).trans (hF q hq))
def sm_roomT (d mc ms : Nat) : Room := { frames := d + 8, cells := mc, slots := ms, locals := 64 * d + 160 }
section SMV
variable {l : Launch} {D : va_G} {cl : List vw_C} {tys : List (ClassId × FieldType)} {N0 : Nat} {cs : Nat → Nat} {Ts : List Cond} {sx : List (String × Nat × String × Nat)} {zx : List (String × String × String × Nat)} {oc : (List (Nat × Nat × String × String × String × Value) × List (String × Nat × MethodName × String) × List MethodName)} {K : sm_H} {Y : Nat → sm_Y} {P : Nat → Option sm_M} {ex : List Cond}
/-- what holds when a method has thrown -/
def sm_QT (D : va_G) (cl : List vw_C) (tys : List (ClassId × FieldType)) (N0 : Nat) (cs : Nat → Nat) (K : sm_H) (s : State) (below : List Frame) (h : sm_H) (mc ms : Nat) (t : State) : Prop :=
  t.status = .running ∧ Ended t below (.threw (sm_ad N0 cs (h.length - 1))) ∧ s.WarmedH t.vm ∧ (∃ L, s.sameButNew ({ t with vm := s.vm } : State) L mc ms ∧ ∀ q ∈ L, N0 ≤ q.base) ∧ sm_P D cl tys N0 cs K h t.heap ∧ ∀ q, q < N0 → t.heap[q]? = s.heap[q]?
set_option maxHeartbeats 4000000 in
theorem sm_soundT (hG : sm_Good Ts sx zx oc K cl Y P) (hgw : ∀ w ∈ Ts, goodWord w = true) (hT : sm_T tys) (hfl : l.flags = pinnedFlags ++ [noTraceFlag])
    (hGT : ∀ mi M pc q x, P mi = some M → M.2.2[pc]? = some (some q) → sm_thr q = some x → ∃ ix, q.1 = .new ix ∧ sm_okT Ts sx ex cl (Y mi).1.cls (Y mi).2.1 pc ix x) : ∀ (n d mi pc : Nat) (ls : sm_L) (st : List Value) (h : sm_H) (x : Nat) (h' : sm_H) (M : sm_M), P mi = some M → sm_runT P n d mi pc ls st h = some (x, h') → ls.length = M.1 →
  ∀ (p : Program) (e : Env) (s : State) (m : MethodId) (args : Array Value) (below : List Frame) (meth : Method) (c : Code) (H : Heap) (locs : List Loc) (LS : Array Slot) (h0 : sm_H), p.tables.exec = Jvm.exec → c.code = (Y mi).2.1 → c.maxLocals = M.1 → c.exceptionTable.toList = [] → s.vm.findClass (Y mi).1.cls = some m.cls → meth.name = (Y mi).1.name → (∀ w ∈ Ts, w.before args s = true) → sm_Ex ex N0 s → meth.locks = false → va_K D cl tys s → sm_X cl K sx zx oc N0 cs s →
    sm_P D cl tys N0 cs K h H → sm_LR (sm_ad N0 cs) ls LS → (∀ q, q < N0 → H[q]? = s.heap[q]?) → s.heap.size ≤ H.size → (∀ x ∈ locs, N0 ≤ x.base) → h0.length ≤ h.length → sm_sl h0 ≤ sm_sl h →
    W p l e (sm_roomT d (h'.length - h0.length) (sm_sl h' - sm_sl h0)) s m args below meth c H locs (h.length - h0.length) (sm_sl h - sm_sl h0) (sm_QT D cl tys N0 cs K s below h' (h'.length - h0.length) (sm_sl h' - sm_sl h0)) (F0 m pc LS (st.map (sm_mv (sm_ad N0 cs)))) := by
  intro n
  induction n with
  | zero => intro d mi pc ls st h v h' M hM hr; simp [sm_runT] at hr
  | succ n ih =>
    intro d mi pc ls st h x h' M hM hr hlen p e s m args below meth c H locs LS h0 hx hb hml hnoh hown hmn hts hEx hlocks hK hS hP hL hF hZ0 hlocs hz1 hz2
    obtain ⟨g1, g2, g3, g4, g5, g6⟩ := hG mi M hM
    have hgt := hGT mi M pc
    obtain ⟨nl, kr, tab⟩ := M
    unfold sm_runT at hr
    rw [hM] at hr
    dsimp only at hr hlen hml g1 g4 g5 g6 hgt
    split at hr
    · next q hq =>
      obtain ⟨d1, d2, d3, d4⟩ := g6 pc q hq
      split at hr
      · next x1 hthr =>
        obtain ⟨ix, hqi, X, tx, TX, il, ic, nn, pi, names, o1, o2, o3, o4, o5, o6, o7, o8, o9, o10, o11, o12, o13⟩ := hgt q x1 hM hq hthr
        split at hr
        · next hst =>
          cases hr
          subst hst
          obtain ⟨i, len, rs⟩ := q
          dsimp only at d1 d2 hqi
          subst hqi
          simp only [sm_lenOk, beq_iff_eq] at d2
          subst d2
          have hsl : sm_sl (h ++ [sm_exc x]) = sm_sl h + 6 := by rw [sm_sl_app]; simp [sm_exc, sm_sz]
          have hln : (h ++ [sm_exc x]).length = h.length + 1 := by simp
          intro T hT2 X0
          have htr := Launch.traces_off hfl X0.admits
          have hW := sm_throwW (X := X) (tx := tx) (names := names) (Ts := Ts) (st := []) (pi := pi) (H := H) (locs := locs) (cells := h.length - h0.length) (slots := sm_sl h - sm_sl h0) (R := sm_roomT d ((h ++ [sm_exc x]).length - h0.length) (sm_sl (h ++ [sm_exc x]) - sm_sl h0)) (p := p) (l := l) (e := e) (s := s) (m := m) (args := args) (below := below) (meth := meth) (c := c) (LS := LS) (pc := pc) (cc := (Y mi).2.1) hx htr hb (by rw [hml, ← hlen, hL.1]) hlocks hnoh hown hts hgw o2 o3 o4 o5 o6 (o8.mono (fun a ha => by
              rcases ha with z | z
              · exact Or.inl z
              · exact Or.inr (fun U hU1 hU2 => hEx a z args U hU1 (fun q hq => by rw [hU2]; exact hF q hq)))) (hS.1 _ o9) ⟨by show _ ≤ (h ++ [sm_exc x]).length - h0.length; omega, by show _ ≤ sm_sl (h ++ [sm_exc x]) - sm_sl h0; omega⟩ (by show names.length + 3 < d + 8; omega) (by show 0 + _ ≤ 64 * d + 160; omega) d1 o10 o11 o12 o13
          obtain ⟨t, t1, t2⟩ := hW T hT2 X0
          refine ⟨t, t1, ?_⟩
          obtain ⟨u1, u2, u3, u4, u5, u6, ce, u7, u8, u9⟩ := t2
          have hPs := hP.1
          have hPl := hP.2.1
          have hnew : sm_P D cl tys N0 cs K (h ++ [sm_exc x]) t.heap := by
            refine hP.make ⟨_, o1, ce, u7, ?_, u9, fun k hk => absurd hk (Nat.not_lt_zero k)⟩ u5 u6
            exact Option.some.inj (u8.symm.trans (hK.1 x _ o1).2.1)
          refine ⟨u1, ?_, u3, ⟨locs, ?_, hlocs⟩, hnew, fun q hq => (u6 q (by omega)).trans (hF q hq)⟩
          · rw [hln, Nat.add_sub_cancel, sm_ad_ge hPl, show N0 + (h.length - sm_C) = H.size by omega]
            exact u2
          · rw [hln, hsl]
            have e1 : h.length - h0.length + 1 = h.length + 1 - h0.length := by omega
            have e2 : sm_sl h - sm_sl h0 + 6 = sm_sl h + 6 - sm_sl h0 := by omega
            rw [e1, e2] at u4
            exact u4
        · cases hr
      · obtain ⟨i, len, rs⟩ := q
        dsimp only at d1 d2 d3 d4
        split at hr
        · next pc1 ls1 st1 h1 hs =>
          have hm1 := sm_step_mono hs
          have hm2 := sm_runT_mono _ _ _ _ _ _ _ _ _ hr
          refine sm_next (h' := h1) hx hb hts hown hK hT hS hF hZ0 (by rw [hmn]; exact d3) d2 d1 hP hL hlocs ⟨by show 2 ≤ d + 8; omega, by show 43 ≤ 64 * d + 160; omega⟩ (by rw [hml, hlen]) ⟨by show _ ≤ h'.length - h0.length; omega, by show _ ≤ sm_sl h' - sm_sl h0; omega⟩ hs ?_
          intro H' locs' LS' hP' hL' hF' hlocs'
          have e1 : h.length - h0.length + (h1.length - h.length) = h1.length - h0.length := by omega
          have e2 : sm_sl h - sm_sl h0 + (sm_sl h1 - sm_sl h) = sm_sl h1 - sm_sl h0 := by omega
          rw [e1, e2]
          exact ih d mi pc1 ls1 st1 h1 x h' _ hM hr (by rw [sm_step_len hs]; exact hlen) p e s m args below meth c H' locs' LS' h0 hx hb hml hnoh hown hmn hts hEx hlocks hK hS hP' hL' (fun q hq => (hF' q hq).trans (hF q hq)) (by have z1 := hP.1; have z2 := hP'.1; omega) hlocs' (by omega) (by omega)
        · cases hr
        · next m1 as r hs =>
          split at hr
          · next d1' nl1 k1 tab1 hM1 =>
            split at hr
            · next hc =>
              obtain ⟨hc1, hc2⟩ := hc
              split at hr
              · next v1 h1 hcall =>
                have hm1 := sm_run_mono _ _ _ _ _ _ _ _ _ hcall
                have hm2 := sm_runT_mono _ _ _ _ _ _ _ _ _ hr
                refine sm_callW hG hgw hT hx hb hml hown hts hK hS hP (hL.1.trans hlen) hF hlocs d1 d2 d4 hs hM1 hc1 hc2 hcall (by show d1' + 3 ≤ d1' + 1 + 8; omega) (by show 64 * d1' + 128 ≤ 64 * (d1' + 1) + 160; omega) ⟨by show _ ≤ h'.length - h0.length; omega, by show _ ≤ sm_sl h' - sm_sl h0; omega⟩ ?_
                intro H1 locs1 hP1 hF1 hl1
                have e1 : h.length - h0.length + (h1.length - h.length) = h1.length - h0.length := by omega
                have e2 : sm_sl h - sm_sl h0 + (sm_sl h1 - sm_sl h) = sm_sl h1 - sm_sl h0 := by omega
                rw [e1, e2]
                exact ih (d1' + 1) mi (pc + 3) ls (sm_back v1 r) h1 x h' _ hM hr hlen p e s m args below meth c H1 locs1 LS h0 hx hb hml hnoh hown hmn hts hEx hlocks hK hS hP1 hL (fun q hq => (hF1 q hq).trans (hF q hq)) (by have z1 := hP.1; have z2 := hP1.1; omega) hl1 (by omega) (by omega)
              · cases hr
            · cases hr
          · cases hr
        · cases hr
    · cases hr
end SMV
/-! A CALL THAT THROWS, AND THE CATCH. -/
section SMC
variable {l : Launch} {D : va_G} {cl : List vw_C} {tys : List (ClassId × FieldType)} {N0 : Nat} {cs : Nat → Nat} {Ts : List Cond} {sx : List (String × Nat × String × Nat)} {zx : List (String × String × String × Nat)} {oc : (List (Nat × Nat × String × String × String × Value) × List (String × Nat × MethodName × String) × List MethodName)} {K : sm_H} {Y : Nat → sm_Y} {P : Nat → Option sm_M} {ex : List Cond}
/-- a contract of a method that throws -/
def sm_MetT (l : Launch) (D : va_G) (cl : List vw_C) (tys : List (ClassId × FieldType)) (N0 : Nat) (cs : Nat → Nat) (K : sm_H) (y : MethodName) (ws : List Cond) (rm : Room) (Pc : Array Value → State → Prop) (h : sm_H) (mc ms : Nat) : Prop :=
  MetFree l y (headSpec ws rm) Pc (fun _ _ _ _ _ => True) (fun _ st o t => o = .threw (sm_ad N0 cs (h.length - 1)) ∧ st.WarmedH t.vm ∧ (∃ L, st.sameButNew ({ t with vm := st.vm } : State) L mc ms ∧ ∀ q ∈ L, N0 ≤ q.base) ∧ sm_P D cl tys N0 cs K h t.heap ∧ ∀ q, q < N0 → t.heap[q]? = st.heap[q]?)
/-- what a throwing method asks of its start -/
def sm_PcT (D : va_G) (cl : List vw_C) (tys : List (ClassId × FieldType)) (sx : List (String × Nat × String × Nat)) (zx : List (String × String × String × Nat)) (oc : (List (Nat × Nat × String × String × String × Value) × List (String × Nat × MethodName × String) × List MethodName)) (K : sm_H) (ex : List Cond) (N0 : Nat) (cs : Nat → Nat) (as : List Value) (h : sm_H) : Array Value → State → Prop :=
  fun v U => sm_Pc D cl tys sx zx oc K N0 cs as h v U ∧ sm_Ex ex N0 U
theorem sm_metT (hG : sm_Good Ts sx zx oc K cl Y P) (hgw : ∀ w ∈ Ts, goodWord w = true) (hT : sm_T tys) (hfl : l.flags = pinnedFlags ++ [noTraceFlag])
    (hGT : ∀ mi M pc q x, P mi = some M → M.2.2[pc]? = some (some q) → sm_thr q = some x → ∃ ix, q.1 = .new ix ∧ sm_okT Ts sx ex cl (Y mi).1.cls (Y mi).2.1 pc ix x) {n d mi : Nat} {M : sm_M} {as : List Value} {h h' : sm_H} {x : Nat} (hM : P mi = some M) (hr : sm_runT P n d mi 0 (sm_entry M.1 as) [] h = some (x, h')) (hl : (sm_slots as).length ≤ M.1) :
    sm_MetT l D cl tys N0 cs K (Y mi).1 (Cond.code (Y mi).1 (Y mi).2.1 M.1 (Y mi).2.2 :: Ts) (sm_roomT d (h'.length - h.length) (sm_sl h' - sm_sl h)) (sm_PcT D cl tys sx zx oc K ex N0 cs as h) h' (h'.length - h.length) (sm_sl h' - sm_sl h) := by
  obtain ⟨-, g2, -⟩ := hG mi M hM
  refine MetFree.of_bodyS (code := (Y mi).2.1) (maxLocals := M.1) (ret := (Y mi).2.2) g2 ?_ ?_
  · intro args s m h hn
    obtain ⟨meth, c, h1, h2, h3, h4, h5, h6, -, -⟩ := Cond.code_spec hn (atoms_spec (ws := Cond.code (Y mi).1 (Y mi).2.1 M.1 (Y mi).2.2 :: Ts) h _ List.mem_cons_self)
    exact ⟨meth, c, h1, h2, h3, h4, h5, h6⟩
  · intro p e s m args below meth c s₁ B hml hP _
    obtain ⟨⟨rfl, hP, hK, hS⟩, hEx⟩ := hP
    have hts := atoms_spec (ws := Cond.code (Y mi).1 (Y mi).2.1 M.1 (Y mi).2.2 :: Ts) B.pre
    have hnoh : c.exceptionTable.toList = [] := by
      have h0 := BodyLoose.noHandlers B (hts _ List.mem_cons_self)
      simpa [Array.isEmpty_iff] using h0
    have hh0 : s₁.heap = s.heap := by rw [B.state]; rfl
    have hW := sm_soundT hG hgw hT hfl hGT n d mi 0 (sm_entry M.1 as) [] h x h' M hM hr (by simp [sm_entry]; omega) p e s m _ below meth c s.heap [] _ h B.exec B.bytes hml hnoh (findClass_of_methodNamed B.named) (name_of_methodNamed B.named B.method).1 (fun w hw => hts w (List.mem_cons_of_mem _ hw)) hEx B.notSynchronized hK hS hP (sm_entry_LR hl) (fun _ _ => rfl) (Nat.le_refl _) (fun x hx => by cases hx) (Nat.le_refl _) (Nat.le_refl _)
    rw [Nat.sub_self, Nat.sub_self] at hW
    obtain ⟨t, a1, b1, b2, b3, b4, b5, b6⟩ := hW s₁ hh0 (Stand.of_body B)
    have e1 : F0 m 0 ((lg_sl (as.map (sm_mv (sm_ad N0 cs))) ++ List.replicate (M.1 - (lg_sl (as.map (sm_mv (sm_ad N0 cs)))).length) Slot.unset).toArray) (([] : List Value).map (sm_mv (sm_ad N0 cs))) = entryFrame m (as.map (sm_mv (sm_ad N0 cs))).toArray M.1 := (lg_entry_eq m (as.map (sm_mv (sm_ad N0 cs))) M.1).symm
    rw [e1] at a1
    exact ⟨t, _, a1, b1, b2, rfl, b3, b4, b5, b6⟩
variable {p : Program} {e : Env} {R : Room} {s : State} {m : MethodId} {args : Array Value} {below : List Frame} {meth : Method} {c : Code} {T : State} {locs : List Loc} {cells slots : Nat}
set_option maxHeartbeats 4000000 in
/-- a virtual call of a method that throws: the caller's frame, with the note over it -/
theorem sm_callVT (X : Stand p l e R s m args below meth c T locs cells slots) (hexec : p.tables.exec = Jvm.exec) {own C : String} {index : Nat} {y : MethodName} {bytes : ByteArray} {maxL mc ms : Nat} {ret : Option FieldType} {rm : Room} {ws : List Cond} {Pc : Array Value → State → Prop} {h' : sm_H}
    (hown : s.vm.findClass own = some m.cls) (hlink : (Cond.methodLink own index y).before args s = true) (hinst : (Cond.instanceMethod y).before args s = true) (hsel : (Cond.selects C y y).before args s = true)
    (hcode : (Cond.code y bytes maxL ret).before args s = true) (hini : (Cond.initialized y.cls).before args s = true) (hy : y.cls ≠ "java/lang/invoke/MethodHandle" ∧ y.cls ≠ "java/lang/invoke/VarHandle")
    (hM : sm_MetT l D cl tys N0 cs K y ws rm Pc h' mc ms) (hblind : FrameBlind Pc) (hrc : rm.cells = mc) (hrs : rm.slots = ms) (hfr : rm.frames + 1 ≤ R.frames) (hlo : 8 + (maxL + 11) + rm.locals ≤ R.locals)
    (hws : ∀ w ∈ ws, ∀ (a' : Array Value) (U : State), s.WarmedH U.vm → w.before a' U = true) (hcw : Cond.code y bytes maxL ret ∈ ws)
    {b : Addr} {cellB : Cell} (hcell : T.heap[b]? = some cellB) (hobj : cellB.vm.isStatics = false) (hcls : s.vm.findClass C = some cellB.cls)
    {g : JFrame} (hg : g.method = m) (hsize : g.locals.size = c.maxLocals) {argsL rest : List Value} (hlen : ∀ sig, parseMethodDescriptor y.desc = some sig → argsL.length = sig.parameters.length)
    (hstack : g.stack = argsL.reverse ++ .ref b :: rest) (hW : 2 * g.monitorRoom + (rest.map fun v => v.category).sum ≤ 8) (hdg : decode c.code g.pc = .ok (.invokevirtual index, 3))
    (hcl : cells + mc ≤ R.cells ∧ slots + ms ≤ R.slots) (hPc : ∀ U : State, U.heap = T.heap → s.WarmedH U.vm → Pc (Value.ref b :: argsL).toArray U) :
    ∃ (T' : State) (L : List Loc), Stand p l e R s m args below meth c T' (locs ++ L) (cells + mc) (slots + ms) ∧ (∀ q ∈ L, N0 ≤ q.base) ∧ sm_P D cl tys N0 cs K h' T'.heap ∧ (∀ q, q < N0 → T'.heap[q]? = T.heap[q]?) ∧
      ∀ target, Steps p.tables e below ((T'.setTop { g with stack := rest }).pushFrame (.throwing (sm_ad N0 cs (h'.length - 1)))) target → Steps p.tables e below (T.setTop g) target := by
  obtain ⟨mk, methM, hnamed, hmethM, hstM, habM⟩ := Cond.instanceMethod_spec hinst
  obtain ⟨methM', cM, hmethM', -, -, -, -, -, -, hsigM⟩ := Cond.code_spec hnamed hcode
  cases hmethM.symm.trans hmethM'
  obtain ⟨c2, r2, m2, q1, q2, q3, q4, kP, hkP, hkPi⟩ := Cond.selects_spec hsel
  cases hcls.symm.trans q1
  cases (State.methodFound?_of_named hnamed hy).symm.trans q2
  cases hnamed.symm.trans q3
  have hselP : selectMethod e.platform s.vm cellB.cls mk = .method mk := by rw [Launch.admits_selectMethod X.admits]; exact q4
  obtain ⟨vm₁, X₁, hstep₁⟩ := X.invokevirtual hexec hown hlink hnamed hmethM hstM hkP hkPi hy (a := b) (cell := cellB) hcell
    (fun z h => by rw [h] at hobj; cases hobj) hselP hmethM habM hkP hkPi (g := g) hg (argsL := argsL) (rest := rest) (hlen _ hsigM) hstack hdg
  have hn : (T.setVm vm₁).methodNamed? y = some mk := X₁.named hnamed
  have hdg' : decode c.code ({ g with stack := rest } : JFrame).pc = .ok (.invokevirtual index, 3) := hdg
  have h : At (T.setVm vm₁) ({ g with stack := rest } : JFrame).method c below := by show At _ g.method c below; rw [hg]; exact X₁.here
  obtain ⟨methY, cY, hmY, hcY, -, hlY, -⟩ := Cond.code_spec hn (hws _ hcw (Value.ref b :: argsL).toArray _ X₁.warmed)
  obtain ⟨kY, hkY, -⟩ := className_of_methodNamed hn
  have hinitY : kY.init = .initialized := Cond.initialized_spec (args := (Value.ref b :: argsL).toArray) (findClass_of_methodNamed hn) hkY (word_at X₁.warmed (Or.inl (by first | rfl | simp [Cond.onTables, Cond.keeps, Cond.steady])) hini)
  have happ : (headSpec ws rm).appliesLoose y e.platform ((T.setVm vm₁).calling { g with stack := rest } mk (Value.ref b :: argsL).toArray) = true :=
    Spec.appliesLoose_calling (g := { g with stack := rest }) h hdg' hn hkY hinitY
      (X₁.room_calling (g := { g with stack := rest }) (R' := (headSpec ws rm).room) hsize hmY hcY hfr (by rw [hlY]; show 2 * g.monitorRoom + (rest.map fun v => v.category).sum + _ + rm.locals ≤ _; omega) (by show cells + rm.cells ≤ _; omega) (by show slots + rm.slots ≤ _; omega)) (atoms_intro fun w hw => hws w hw _ _ X₁.warmed)
  obtain ⟨mid, hmid⟩ := h.above
  have hfr2 : ((T.setVm vm₁).setTop { g with stack := rest }).frames = (.java { g with stack := rest } :: mid) ++ below := by rw [State.frames_setTop' _ h.top, hmid]; rfl
  obtain ⟨o, s₂, hsteps, -, hend, hq⟩ := Steps.callFree hM p X.admits X.cas X.clock (acts := []) hfr2 happ (hblind _ _ _ _ (hPc (T.setVm vm₁) rfl X₁.warmed)) trivial
  obtain ⟨rfl, hw, ⟨L, hsame, hL⟩, hp, hk⟩ := hq
  rw [State.frames_setTop' _ h.top, X₁.tail] at hend
  obtain ⟨T', X', hW', hsame', ht⟩ := X₁.outOfThrown (g := { g with stack := rest }) hg hend hw hsame
  have hheap : s₂.heap = T'.heap := by rw [ht]; exact Stand.throwing_heap T' _ _
  refine ⟨T', L, X', hL, by rw [← hheap]; exact hp, fun q hq => by rw [← hheap]; exact hk q hq, fun target hrest => hstep₁ _ fun acts => ?_⟩
  rw [doInvoke_state]
  refine hsteps.trans ?_
  rw [ht]
  exact hrest
/-- an entry of a handler table whose class is linked, resolved or not: the object's class decides -/
theorem sm_goClass {E : CtlPost} {d : Bool} {acts : List Action} {f : JFrame} {a : Addr} {QQ : Handler → Pre} {x : ExceptionTableEntry} {t : List ExceptionTableEntry} {cX : ClassId} {cell : Cell} {vm' : Vm} (hx : covers x f.pc = true) (h0 : x.catchType ≠ 0)
    (hg : (Jvm.resolveClass f.method.cls x.catchType).Gives e.toSetting s.vm (.ok cX) vm') (hsz : vm'.classes.size ≤ s.vm.classes.size) (hcell : s.heap[a]? = some cell) (hobj : ∀ k, cell.vm ≠ .statics k)
    (hk : ∃ k, vm'.classes[cell.cls]? = some k) (hc : ∃ k, vm'.classes[cX]? = some k) :
    wp (findHandler.go f a (x :: t)) QQ E e d acts s ↔ if vm'.assignable cell.cls cX = true then QQ (.found x.handlerPc) (VmOp.dirties (VmOp.resolveClass f.method.cls x.catchType) d) (VmOp.acts (VmOp.resolveClass f.method.cls x.catchType) acts) (s.setVm vm') else wp (findHandler.go f a t) QQ E e (VmOp.dirties (VmOp.resolveClass f.method.cls x.catchType) d) (VmOp.acts (VmOp.resolveClass f.method.cls x.catchType) acts) (s.setVm vm') := by
  simp only [covers] at hx
  obtain ⟨ha, ht⟩ := hg.op (op := VmOp.resolveClass f.method.cls x.catchType) rfl
  cases hfit : vm'.assignable cell.cls cX <;>
    simp [findHandler.go, hx, h0, ha, ht, hsz, hcell, hobj, hk, hc, hfit, VmOp.dirties, VmOp.acts]
end SMC
/-! HANDLERS: the search through a method's table -/
/-- the first entry (from, to, handler, pool entry, class number) that covers pc and takes class x -/
def sm_find (pc x : Nat) : List (Nat × Nat × Nat × Nat × Nat) → Option Nat
  | [] => none
  | (a, b, hp, _, z) :: r => if a ≤ pc ∧ pc < b then (if z = x then some hp else sm_find pc x r) else sm_find pc x r
/-- classes that cannot be cast -/
def sm_N (D : va_G) (nc : List (Nat × Nat)) (U : State) : Prop := ∀ q ∈ nc, U.vm.assignable (D.1 q.1) (D.1 q.2) = decide (q.1 = q.2)
/-- what the tables must hold of a handler -/
def sm_okH (Ts : List Cond) (cl : List vw_C) (nc : List (Nat × Nat)) (own : String) (x : Nat) (q : Nat × Nat × Nat × Nat × Nat) : Prop :=
  q.2.2.2.1 ≠ 0 ∧ ∃ (Z : String) (T : u_T), cl[q.2.2.2.2]? = some (Z, T, 0) ∧ Cond.classLink own q.2.2.2.1 Z ∈ Ts ∧ ((q.2.2.2.2 = x ∧ (x, x) ∈ nc) ∨ (q.2.2.2.2 ≠ x ∧ (x, q.2.2.2.2) ∈ nc))
section SMH
variable {D : va_G} {cl : List vw_C} {tys : List (ClassId × FieldType)} {N0 : Nat} {cs : Nat → Nat} {Ts : List Cond} {K : sm_H} {nc : List (Nat × Nat)}
variable {p : Program} {l : Launch} {e : Env} {R : Room} {s : State} {m : MethodId} {args : Array Value} {below : List Frame} {meth : Method} {c : Code} {T : State} {locs : List Loc} {cells slots : Nat}
set_option maxHeartbeats 4000000 in
theorem sm_goL (hpl : e.platform.magicAccessors = ({} : Platform).magicAccessors) {own : String} {f : JFrame} {a : Addr} {cell : Cell} {x hp : Nat} {S : State} (hown : s.vm.findClass own = some f.method.cls) (hts : ∀ w ∈ Ts, w.before args s = true) (hK : va_K D cl tys s) (hN : sm_N D nc s)
    (hcell : S.heap[a]? = some cell) (hobj : cell.vm = .none) (hcx : cell.cls = D.1 x) (hxc : ∃ k, s.vm.classes[D.1 x]? = some k) :
    ∀ (al : List (Nat × Nat × Nat × Nat × Nat)) (tl : List ExceptionTableEntry) (vm : Vm), tl.map (fun h => (h.startPc, h.endPc, h.handlerPc, h.catchType)) = al.map (fun q => (q.1, q.2.1, q.2.2.1, q.2.2.2.1)) → (∀ q ∈ al, q.1 ≤ f.pc ∧ f.pc < q.2.1 → sm_okH Ts cl nc own x q) → s.WarmedH vm → sm_find f.pc x al = some hp →
      ∃ vm', s.WarmedH vm' ∧ ∀ (QQ : Handler → Pre) (E : CtlPost) (d : Bool) (acts : List Action), (∀ d', QQ (.found hp) d' acts (S.setVm vm')) → wp (findHandler.go f a tl) QQ E e d acts (S.setVm vm) := by
  intro al
  induction al with
  | nil => intro tl vm _ _ _ hf; simp [sm_find] at hf
  | cons q al ih =>
    intro tl vm hmap hok hW hf
    cases tl with
    | nil => simp at hmap
    | cons t tl =>
      simp only [List.map_cons, List.cons.injEq, Prod.mk.injEq] at hmap
      obtain ⟨⟨m1, m2, m3, m4⟩, hmap⟩ := hmap
      obtain ⟨q1, q2, q3, q4, q5⟩ := q
      dsimp only at m1 m2 m3 m4
      simp only [sm_find] at hf
      by_cases hcov : q1 ≤ f.pc ∧ f.pc < q2
      · rw [if_pos hcov] at hf
        have hcv : covers t f.pc = true := by simp [covers, m1, m2, hcov.1, hcov.2]
        obtain ⟨k0, Z, TZ, k1, k2, k3⟩ := hok _ List.mem_cons_self hcov
        dsimp only at k0 k1 k2 k3
        obtain ⟨cZ, hcZ, hcl⟩ := Cond.classLink_spec hown (hts _ k2) e.platform hpl
        have hDZ : D.1 q5 = cZ := Option.some.inj ((hK.1 q5 _ k1).2.1.symm.trans hcZ)
        obtain ⟨dk, _, _, kt, hd, _, _, _, _, hkt, _, hopen⟩ := hcl.here
        have hcl₀ := hW.classLinks hcl
        have hW' : s.WarmedH (vm.noted f.method.cls q4 (.cls cZ)) := hW.noted hd hopen (State.rightAt_cls hcl)
        have hgv := resolveClass_links e.toSetting hcl₀
        obtain ⟨kx, hkx⟩ := hxc
        obtain ⟨kx', hkx', -⟩ := hW'.alike.2.2 _ _ hkx
        obtain ⟨kt', hkt', -⟩ := hW'.alike.2.2 _ _ hkt
        have hszv : (vm.noted f.method.cls q4 (.cls cZ)).classes.size ≤ vm.classes.size := by no_record
        have hgo := fun (QQ : Handler → Pre) (E : CtlPost) (d : Bool) (acts : List Action) => sm_goClass (e := e) (s := S.setVm vm) (E := E) (d := d) (acts := acts) (f := f) (a := a) (QQ := QQ) (x := t) (t := tl) (cX := cZ) (cell := cell) (vm' := vm.noted f.method.cls q4 (.cls cZ)) hcv (by rw [m4]; exact k0) (by rw [m4]; exact hgv) hszv hcell (fun k z => by rw [hobj] at z; cases z) ⟨kx', by rw [hcx]; exact hkx'⟩ ⟨kt', hkt'⟩
        rcases k3 with ⟨rfl, k3⟩ | ⟨hne, k3⟩
        · rw [if_pos rfl] at hf
          cases hf
          have hasg : (vm.noted f.method.cls q4 (.cls cZ)).assignable cell.cls cZ = true := by
            rw [hW'.alike.assignable, hcx, ← hDZ]
            exact (hN _ k3).trans (decide_eq_true rfl)
          refine ⟨_, hW', fun QQ E d acts hQ => ?_⟩
          rw [hgo QQ E d acts, if_pos hasg, m3]
          exact hQ _
        · rw [if_neg hne] at hf
          have hasg : (vm.noted f.method.cls q4 (.cls cZ)).assignable cell.cls cZ = false := by
            rw [hW'.alike.assignable, hcx, ← hDZ]
            exact (hN _ k3).trans (decide_eq_false (Ne.symm hne))
          obtain ⟨vm', g1, g2⟩ := ih tl _ hmap (fun z hz => hok z (List.mem_cons_of_mem _ hz)) hW' hf
          refine ⟨vm', g1, fun QQ E d acts hQ => ?_⟩
          rw [hgo QQ E d acts, if_neg (by rw [hasg]; decide)]
          exact g2 QQ E _ acts hQ
      · rw [if_neg hcov] at hf
        have hcv : covers t f.pc = false := by
          simp only [covers, m1, m2, Bool.and_eq_false_iff, decide_eq_false_iff_not]
          omega
        obtain ⟨vm', g1, g2⟩ := ih tl vm hmap (fun z hz => hok z (List.mem_cons_of_mem _ hz)) hW hf
        refine ⟨vm', g1, fun QQ E d acts hQ => ?_⟩
        rw [W.findHandler_go_skip hcv]
        exact g2 QQ E d acts hQ
/-- the exception is caught: the walk goes on at the handler -/
theorem sm_caught (X : Stand p l e R s m args below meth c T locs cells slots) {own : String} {a : Addr} {cell : Cell} {x hp : Nat} {g : JFrame} (hg : g.method = m) (al : List (Nat × Nat × Nat × Nat × Nat)) (hal : c.exceptionTable.toList.map (fun h => (h.startPc, h.endPc, h.handlerPc, h.catchType)) = al.map (fun q => (q.1, q.2.1, q.2.2.1, q.2.2.2.1)))
    (hown : s.vm.findClass own = some m.cls) (hts : ∀ w ∈ Ts, w.before args s = true) (hK : va_K D cl tys s) (hN : sm_N D nc s) (hcell : T.heap[a]? = some cell) (hobj : cell.vm = .none) (hcx : cell.cls = D.1 x) (hxc : ∃ k, s.vm.classes[D.1 x]? = some k)
    (hok : ∀ q ∈ al, q.1 ≤ g.pc ∧ g.pc < q.2.1 → sm_okH Ts cl nc own x q) (hf : sm_find g.pc x al = some hp) :
    ∃ vm', Stand p l e R s m args below meth c (T.setVm vm') locs cells slots ∧ ∀ target, Steps p.tables e below ((T.setVm vm').setTop { g with pc := hp, stack := [.ref a] }) target → Steps p.tables e below ((T.setTop g).pushFrame (.throwing a)) target := by
  have hpl : e.platform.magicAccessors = ({} : Platform).magicAccessors := by rw [X.admits.platform]
  obtain ⟨vm', g1, g2⟩ := sm_goL (S := (T.setTop g).pushFrame (.throwing a)) (f := g) (a := a) hpl (by rw [hg]; exact hown) hts hK hN (by rw [Stand.throwing_heap]; exact hcell) hobj hcx hxc al c.exceptionTable.toList T.vm hal hok X.warmed hf
  have hS : ((T.setTop g).pushFrame (.throwing a)).setVm T.vm = (T.setTop g).pushFrame (.throwing a) := by
    have := State.setVm_self ((T.setTop g).pushFrame (.throwing a))
    rw [Stand.throwing_vm] at this
    exact this
  rw [hS] at g2
  refine ⟨vm', X.noted g1, fun target hrest => ?_⟩
  have h : At T g.method c below := by rw [hg]; exact X.here
  have hm : ((T.setTop g).pushFrame (.throwing a)).vm.method? g.method = some meth := by rw [Stand.throwing_vm, hg]; exact X.method'
  obtain ⟨hgo, hw⟩ := h.throwing a
  refine Steps.head hgo hw ?_
  have key : ∀ r : List Frame, (stepThrowing e ((T.setTop g).pushFrame (.throwing a)) a (.java g :: r)).Is ((((T.setTop g).pushFrame (.throwing a)).setVm vm').setFrames (.java { g with pc := hp, stack := [.ref a] } :: r)) [] := by
    intro r
    simp only [stepThrowing, searchFrame, vmDo]
    generalize hr : Sem.go _ e false [] ((T.setTop g).pushFrame (.throwing a)) = res
    obtain ⟨as, rfl, ha⟩ := Sem.eq_ok_of hr (a := Handler.found hp) (s' := ((T.setTop g).pushFrame (.throwing a)).setVm vm') (acts' := []) (by
      rw [wp_bind', W.findHandler_eq hm X.code]
      refine g2 _ _ _ _ (fun d' => ?_)
      simp)
    exact ⟨rfl, ha⟩
  rw [stepThread_throwing (frames_entered h.top _), (key _).1]
  obtain ⟨g₀, hg0⟩ := Option.isSome_iff_exists.mp h.top
  obtain ⟨r, hr⟩ := State.topJava?_eq_some.mp hg0
  have hr2 : (T.setVm vm').frames = .java g₀ :: r := hr
  rw [State.setTop_of_frames _ hr2] at hrest
  rw [hr]
  have e1 : ((((T.setTop g).pushFrame (.throwing a)).setVm vm').setFrames (.java { g with pc := hp, stack := [.ref a] } :: (Frame.java g₀ :: r).tail)) = ((T.setVm vm').setFrames (.java { g with pc := hp, stack := [.ref a] } :: r)) := by
    rw [State.pushFrame, State.setTop_of_frames _ hr]
    show ((((T.setFrames _).setFrames _).setFrames _).setVm vm') = ((T.setFrames _).setVm vm')
    rw [State.setFrames_setFrames, State.setFrames_setFrames]
    rfl
  rw [e1]
  exact hrest
end SMH
/-! METHODS WITH HANDLERS -/
/-- such a method: locals, kind of the answer, instructions; its handlers -/
abbrev sm_MW : Type := sm_M × List (Nat × Nat × Nat × Nat × Nat)
def sm_runW (P : Nat → Option sm_M) (PW : Nat → Option sm_MW) : Nat → Nat → Nat → Nat → sm_L → List Value → sm_H → Option (Option Value × sm_H)
  | 0, _, _, _, _, _, _ => none
  | n + 1, d, m, pc, ls, st, h => match PW m with
    | none => none
    | some ((_, k, tab), al) => match tab[pc]? with
      | some (some q) => match sm_step q pc ls st h with
        | some (.inl (pc', ls', st', h')) => sm_runW P PW n d m pc' ls' st' h'
        | some (.inr (.inl v)) => if sm_okret k v then some (v, h) else none
        | some (.inr (.inr (m', as, r))) => match d, P m' with
          | d' + 1, some (nl, _, _) => if (sm_slots as).length ≤ nl ∧ (r.map fun v => v.category).sum ≤ 8 then (match sm_run P n d' m' 0 (sm_entry nl as) [] h with
            | some (v, h') => sm_runW P PW n d m (pc + 3) ls (sm_back v r) h'
            | none => match sm_runT P n d' m' 0 (sm_entry nl as) [] h with
              | some (x, h') => match sm_find pc x al with
                | some hp => sm_runW P PW n d m hp ls [.ref (h'.length - 1)] h'
                | none => none
              | none => none) else none
          | _, _ => none
        | none => none
      | _ => none
theorem sm_runW_mono {P : Nat → Option sm_M} {PW : Nat → Option sm_MW} : ∀ (n d m pc : Nat) (ls : sm_L) (st : List Value) (h : sm_H) (v : Option Value) (h' : sm_H), sm_runW P PW n d m pc ls st h = some (v, h') → h.length ≤ h'.length ∧ sm_sl h ≤ sm_sl h' := by
  intro n
  induction n with
  | zero => intro d m pc ls st h v h' hr; simp [sm_runW] at hr
  | succ n ih =>
    intro d m pc ls st h v h' hr
    unfold sm_runW at hr
    split at hr
    · cases hr
    · split at hr
      · split at hr
        · next hs =>
          have h1 := sm_step_mono hs
          have h2 := ih _ _ _ _ _ _ _ _ hr
          exact ⟨Nat.le_trans h1.1 h2.1, Nat.le_trans h1.2 h2.2⟩
        · split at hr
          · cases hr; exact ⟨Nat.le_refl _, Nat.le_refl _⟩
          · cases hr
        · split at hr
          · split at hr
            · split at hr
              · next hc =>
                have g1 := sm_run_mono _ _ _ _ _ _ _ _ _ hc
                have g2 := ih _ _ _ _ _ _ _ _ hr
                exact ⟨Nat.le_trans g1.1 g2.1, Nat.le_trans g1.2 g2.2⟩
              · split at hr
                · next hc =>
                  split at hr
                  · have g1 := sm_runT_mono _ _ _ _ _ _ _ _ _ hc
                    have g2 := ih _ _ _ _ _ _ _ _ hr
                    exact ⟨Nat.le_trans g1.1 g2.1, Nat.le_trans g1.2 g2.2⟩
                  · cases hr
                · cases hr
            · cases hr
          · cases hr
        · cases hr
      · cases hr
def sm_roomW (d mc ms : Nat) : Room := { frames := d + 9, cells := mc, slots := ms, locals := 64 * d + 256 }
/-- the tables are right of a method with handlers; a call there is by the object's own class -/
def sm_okW (Ts : List Cond) (sx : List (String × Nat × String × Nat)) (zx : List (String × String × String × Nat)) (oc : (List (Nat × Nat × String × String × String × Value) × List (String × Nat × MethodName × String) × List MethodName)) (K : sm_H) (cl : List vw_C) (nc : List (Nat × Nat)) (Y YW : Nat → sm_Y) (mi : Nat) (M : sm_MW) : Prop :=
  Cond.codeWith (YW mi).1 (YW mi).2.1 M.1.1 (YW mi).2.2 (M.2.map fun q => (q.1, q.2.1, q.2.2.1, q.2.2.2.1)) ∈ Ts ∧ plainName (YW mi).1.cls = true ∧ sm_nmh (YW mi).1.cls ∧ M.1.1 ≤ 45 ∧ sm_rk M.1.2.1 (YW mi).2.2 ∧
  (∀ (pc : Nat) (q : sm_I), M.1.2.2[pc]? = some (some q) → decode (YW mi).2.1 pc = .ok (q.1, q.2.1) ∧ sm_lenOk q.1 q.2.1 = true ∧ sm_okI Ts sx zx oc K cl (YW mi).1.cls (YW mi).1.name pc q.1 q.2.2 ∧ sm_okC Ts oc cl Y (YW mi).1.cls q.1 q.2.2 ∧
    (∀ idx k n ps ci m1, q.1 = .invokevirtual idx → q.2.2 = k :: n :: ps → sm_pick ci ps = some m1 → ∃ (C : String) (T : u_T) (N : Nat), cl[ci]? = some (C, T, N) ∧ Cond.instanceMethod (Y m1).1 ∈ Ts ∧ Cond.initialized (Y m1).1.cls ∈ Ts ∧ Cond.methodLink (YW mi).1.cls idx (Y m1).1 ∈ Ts ∧ Cond.selects C (Y m1).1 (Y m1).1 ∈ Ts ∧ sm_par (Y m1).1.desc = some n) ∧
    (∀ x hp, sm_find pc x M.2 = some hp → (∃ X T, cl[x]? = some (X, T, 0)) ∧ ∀ z ∈ M.2, z.1 ≤ pc ∧ pc < z.2.1 → sm_okH Ts cl nc (YW mi).1.cls x z) ∧
    ((∃ x hp, sm_find pc x M.2 = some hp) → (∀ idx, q.1 = .invokestatic idx → False) ∧ ∀ idx, q.1 = .invokespecial idx → False))
section SMX
variable {l : Launch} {D : va_G} {cl : List vw_C} {tys : List (ClassId × FieldType)} {N0 : Nat} {cs : Nat → Nat} {Ts : List Cond} {sx : List (String × Nat × String × Nat)} {zx : List (String × String × String × Nat)} {oc : (List (Nat × Nat × String × String × String × Value) × List (String × Nat × MethodName × String) × List MethodName)} {K : sm_H} {Y YW : Nat → sm_Y} {P : Nat → Option sm_M} {PW : Nat → Option sm_MW} {ex : List Cond} {nc : List (Nat × Nat)}
/-- the end of a method that returns -/
theorem sm_retW {p : Program} {e : Env} {R : Room} {s : State} {m : MethodId} {args : Array Value} {below : List Frame} {meth : Method} {c : Code} {H : Heap} {locs : List Loc} {cells slots kr pc len : Nat} {LS : Array Slot} {cc : ByteArray} {ret : Option FieldType} {i : Instr} {rs : List Nat} {ls : sm_L} {st : List Value} {h : sm_H} {v : Option Value}
    (hx : p.tables.exec = Jvm.exec) (hb : c.code = cc) (hrt : meth.sig.returnType = ret) (hlocks : meth.locks = false) (hP : sm_P D cl tys N0 cs K h H) (hF : ∀ q, q < N0 → H[q]? = s.heap[q]?) (hlocs : ∀ x ∈ locs, N0 ≤ x.base)
    (g5 : sm_rk kr ret) (d1 : decode cc pc = .ok (i, len)) (d2 : sm_lenOk i len = true) (hs : sm_step (i, len, rs) pc ls st h = some (.inr (.inl v))) (hkr : sm_okret kr v = true) :
    W p l e R s m args below meth c H locs cells slots (MQ below (sm_Qc D cl tys N0 cs K v h) args s cells slots (fun q => N0 ≤ q)) (F0 m pc LS (st.map (sm_mv (sm_ad N0 cs)))) := by
  have hQQ : ∀ (o : Option Value) (t : State), o = v.map (sm_mv (sm_ad N0 cs)) → t.heap = H → sm_Qc D cl tys N0 cs K v h args s (.returned o) t := fun o t ho ht => ⟨by rw [ho], by rw [ht]; exact hP, fun q hq => by rw [ht]; exact hF q hq⟩
  rcases sm_ret_inv hs with ⟨rfl, x, rfl, rfl⟩ | ⟨rfl, x, rfl, rfl⟩ | ⟨rfl, x, rfl, rfl⟩ | ⟨rfl, rfl, rfl⟩
  · simp only [sm_lenOk, beq_iff_eq] at d2
    subst d2
    rcases g5 with ⟨rfl, -⟩ | ⟨rfl, h5⟩ | ⟨rfl, -⟩ | ⟨rfl, -⟩ | ⟨rfl, h5⟩ | ⟨rfl, h5⟩ | ⟨rfl, h5⟩
    · simp [sm_okret] at hkr
    · exact W.iret hx hb (hrt.trans h5) (fun t ht _ => hQQ _ t rfl ht) hlocs d1 (hlocks := hlocks)
    · simp [sm_okret] at hkr
    · simp [sm_okret] at hkr
    · exact W.zret hx hb (hrt.trans h5) (sm_fit_ok (ad := id) (t := 3) (v := .int x) (by simpa [sm_okret, sm_fit] using hkr) (Or.inr (Or.inr (Or.inr (Or.inl ⟨rfl, rfl⟩))))).1 (fun t ht _ => hQQ _ t rfl ht) hlocs d1 (hlocks := hlocks)
    · exact W.zret hx hb (hrt.trans h5) (sm_fit_ok (ad := id) (t := 4) (v := .int x) (by simpa [sm_okret, sm_fit] using hkr) (Or.inr (Or.inr (Or.inr (Or.inr ⟨rfl, rfl⟩))))).1 (fun t ht _ => hQQ _ t rfl ht) hlocs d1 (hlocks := hlocks)
    · have hb2 : x = 0 ∨ x = 1 := by simpa [sm_okret] using hkr
      exact W.zret hx hb (hrt.trans h5) (by rcases hb2 with rfl | rfl <;> rfl) (fun t ht _ => hQQ _ t rfl ht) hlocs d1 (hlocks := hlocks)
  · simp only [sm_lenOk, beq_iff_eq] at d2
    subst d2
    rcases g5 with ⟨rfl, -⟩ | ⟨rfl, -⟩ | ⟨rfl, h5⟩ | ⟨rfl, -⟩ | ⟨rfl, -⟩ | ⟨rfl, -⟩ | ⟨rfl, h5⟩
    · simp [sm_okret] at hkr
    · simp [sm_okret] at hkr
    · exact W.lret hx hb (hrt.trans h5) (fun t ht _ => hQQ _ t rfl ht) hlocs d1 (hlocks := hlocks)
    · simp [sm_okret] at hkr
    · simp [sm_okret] at hkr
    · simp [sm_okret] at hkr
    · simp [sm_okret] at hkr
  · simp only [sm_lenOk, beq_iff_eq] at d2
    subst d2
    rcases g5 with ⟨rfl, -⟩ | ⟨rfl, -⟩ | ⟨rfl, -⟩ | ⟨rfl, h5⟩ | ⟨rfl, -⟩ | ⟨rfl, -⟩ | ⟨rfl, h5⟩
    · simp [sm_okret] at hkr
    · simp [sm_okret] at hkr
    · simp [sm_okret] at hkr
    · rcases h5 with ⟨nm, h5⟩ | ⟨nm, h5⟩
      · exact W.aret hx hb (hrt.trans h5) (Or.inl ⟨_, rfl⟩) (Or.inr ⟨_, rfl⟩) (fun t ht _ => hQQ _ t rfl ht) hlocs d1 (hlocks := hlocks)
      · exact W.aret hx hb (hrt.trans h5) (Or.inr ⟨_, rfl⟩) (Or.inr ⟨_, rfl⟩) (fun t ht _ => hQQ _ t rfl ht) hlocs d1 (hlocks := hlocks)
    · simp [sm_okret] at hkr
    · simp [sm_okret] at hkr
    · simp [sm_okret] at hkr
  · simp only [sm_lenOk, beq_iff_eq] at d2
    subst d2
    rcases g5 with ⟨rfl, h5⟩ | ⟨rfl, -⟩ | ⟨rfl, -⟩ | ⟨rfl, -⟩ | ⟨rfl, -⟩ | ⟨rfl, -⟩ | ⟨rfl, h5⟩
    · exact W.vret hx hb (hrt.trans h5) (fun t ht _ => hQQ _ t rfl ht) hlocs d1 (hlocks := hlocks)
    · simp [sm_okret] at hkr
    · simp [sm_okret] at hkr
    · simp [sm_okret] at hkr
    · simp [sm_okret] at hkr
    · simp [sm_okret] at hkr
    · simp [sm_okret] at hkr
end SMX
/-! A run of a method with handlers is a run of the JVM -/
theorem sm_runT_last {P : Nat → Option sm_M} : ∀ (n d m pc : Nat) (ls : sm_L) (st : List Value) (h : sm_H) (x : Nat) (h' : sm_H), sm_runT P n d m pc ls st h = some (x, h') → ∃ h2, h' = h2 ++ [sm_exc x] ∧ h.length ≤ h2.length := by
  intro n
  induction n with
  | zero => intro d m pc ls st h v h' hr; simp [sm_runT] at hr
  | succ n ih =>
    intro d m pc ls st h v h' hr
    unfold sm_runT at hr
    split at hr
    · cases hr
    · split at hr
      · split at hr
        · split at hr
          · cases hr; exact ⟨h, rfl, Nat.le_refl _⟩
          · cases hr
        · split at hr
          · next hs =>
            obtain ⟨h2, e, hl⟩ := ih _ _ _ _ _ _ _ _ hr
            exact ⟨h2, e, Nat.le_trans (sm_step_mono hs).1 hl⟩
          · cases hr
          · split at hr
            · split at hr
              · split at hr
                · next hc =>
                  obtain ⟨h2, e, hl⟩ := ih _ _ _ _ _ _ _ _ hr
                  exact ⟨h2, e, Nat.le_trans (sm_run_mono _ _ _ _ _ _ _ _ _ hc).1 hl⟩
                · cases hr
              · cases hr
            · cases hr
          · cases hr
      · cases hr
section SMZ
variable {l : Launch} {D : va_G} {cl : List vw_C} {tys : List (ClassId × FieldType)} {N0 : Nat} {cs : Nat → Nat} {Ts : List Cond} {sx : List (String × Nat × String × Nat)} {zx : List (String × String × String × Nat)} {oc : (List (Nat × Nat × String × String × String × Value) × List (String × Nat × MethodName × String) × List MethodName)} {K : sm_H} {Y YW : Nat → sm_Y} {P : Nat → Option sm_M} {PW : Nat → Option sm_MW} {ex : List Cond} {nc : List (Nat × Nat)}
def sm_GoodT (Ts : List Cond) (sx : List (String × Nat × String × Nat)) (ex : List Cond) (cl : List vw_C) (Y : Nat → sm_Y) (P : Nat → Option sm_M) : Prop := ∀ mi M pc q x, P mi = some M → M.2.2[pc]? = some (some q) → sm_thr q = some x → ∃ ix, q.1 = .new ix ∧ sm_okT Ts sx ex cl (Y mi).1.cls (Y mi).2.1 pc ix x
theorem sm_blindT {as : List Value} {h : sm_H} : FrameBlind (sm_PcT D cl tys sx zx oc K ex N0 cs as h) := fun a U g mk q => ⟨sm_blind a U g mk q.1, fun w hw v V h1 h2 => q.2 w hw v V h1 h2⟩
set_option maxHeartbeats 4000000 in
theorem sm_soundW (hG : sm_Good Ts sx zx oc K cl Y P) (hGT : sm_GoodT Ts sx ex cl Y P) (hGW : ∀ mi M, PW mi = some M → sm_okW Ts sx zx oc K cl nc Y YW mi M) (hgw : ∀ w ∈ Ts, goodWord w = true) (hT : sm_T tys) (hfl : l.flags = pinnedFlags ++ [noTraceFlag]) :
  ∀ (n d mi pc : Nat) (ls : sm_L) (st : List Value) (h : sm_H) (v : Option Value) (h' : sm_H) (M : sm_MW), PW mi = some M → sm_runW P PW n d mi pc ls st h = some (v, h') → ls.length = M.1.1 →
  ∀ (p : Program) (e : Env) (s : State) (m : MethodId) (args : Array Value) (below : List Frame) (meth : Method) (c : Code) (H : Heap) (locs : List Loc) (LS : Array Slot) (h0 : sm_H), p.tables.exec = Jvm.exec → c.code = (YW mi).2.1 → meth.sig.returnType = (YW mi).2.2 → c.maxLocals = M.1.1 → c.exceptionTable.toList.map (fun h => (h.startPc, h.endPc, h.handlerPc, h.catchType)) = M.2.map (fun q => (q.1, q.2.1, q.2.2.1, q.2.2.2.1)) → s.vm.findClass (YW mi).1.cls = some m.cls → meth.name = (YW mi).1.name → (∀ w ∈ Ts, w.before args s = true) → sm_Ex ex N0 s → sm_N D nc s → meth.locks = false → va_K D cl tys s → sm_X cl K sx zx oc N0 cs s →
    sm_P D cl tys N0 cs K h H → sm_LR (sm_ad N0 cs) ls LS → (∀ q, q < N0 → H[q]? = s.heap[q]?) → s.heap.size ≤ H.size → (∀ x ∈ locs, N0 ≤ x.base) → h0.length ≤ h.length → sm_sl h0 ≤ sm_sl h →
    W p l e (sm_roomW d (h'.length - h0.length) (sm_sl h' - sm_sl h0)) s m args below meth c H locs (h.length - h0.length) (sm_sl h - sm_sl h0) (MQ below (sm_Qc D cl tys N0 cs K v h') args s (h'.length - h0.length) (sm_sl h' - sm_sl h0) (fun q => N0 ≤ q)) (F0 m pc LS (st.map (sm_mv (sm_ad N0 cs)))) := by
  intro n
  induction n with
  | zero => intro d mi pc ls st h v h' M hM hr; simp [sm_runW] at hr
  | succ n ih =>
    intro d mi pc ls st h v h' M hM hr hlen p e s m args below meth c H locs LS h0 hx hb hrt hml hhd hown hmn hts hEx hN hlocks hK hS hP hL hF hZ0 hlocs hz1 hz2
    obtain ⟨g1, g2, g3, g4, g5, g6⟩ := hGW mi M hM
    obtain ⟨⟨nl, kr, tab⟩, al⟩ := M
    unfold sm_runW at hr
    rw [hM] at hr
    dsimp only at hr hlen hml hhd g1 g4 g5 g6
    split at hr
    · next q hq =>
      obtain ⟨d1, d2, d3, d4, d5, d6, d7⟩ := g6 pc q hq
      obtain ⟨i, len, rs⟩ := q
      dsimp only at d1 d2 d3 d4 d5 d7
      split at hr
      · next pc1 ls1 st1 h1 hs =>
        have hm1 := sm_step_mono hs
        have hm2 := sm_runW_mono _ _ _ _ _ _ _ _ _ hr
        refine sm_next (h' := h1) hx hb hts hown hK hT hS hF hZ0 (by rw [hmn]; exact d3) d2 d1 hP hL hlocs ⟨by show 2 ≤ d + 9; omega, by show 43 ≤ 64 * d + 256; omega⟩ (by rw [hml, hlen]) ⟨by show _ ≤ h'.length - h0.length; omega, by show _ ≤ sm_sl h' - sm_sl h0; omega⟩ hs ?_
        intro H' locs' LS' hP' hL' hF' hlocs'
        have e1 : h.length - h0.length + (h1.length - h.length) = h1.length - h0.length := by omega
        have e2 : sm_sl h - sm_sl h0 + (sm_sl h1 - sm_sl h) = sm_sl h1 - sm_sl h0 := by omega
        rw [e1, e2]
        exact ih d mi pc1 ls1 st1 h1 v h' _ hM hr (by rw [sm_step_len hs]; exact hlen) p e s m args below meth c H' locs' LS' h0 hx hb hrt hml hhd hown hmn hts hEx hN hlocks hK hS hP' hL' (fun q hq => (hF' q hq).trans (hF q hq)) (by have z1 := hP.1; have z2 := hP'.1; omega) hlocs' (by omega) (by omega)
      · next v1 hs =>
        split at hr
        · next hkr =>
          cases hr
          exact sm_retW hx hb hrt hlocks hP hF hlocs g5 d1 d2 hs hkr
        · cases hr
      · next m1 as r hs =>
        split at hr
        · next d1' nl1 k1 tab1 hM1 =>
          split at hr
          · next hc =>
            obtain ⟨hc1, hc2⟩ := hc
            split at hr
            · next v1 h1 hcall =>
              have hm1 := sm_run_mono _ _ _ _ _ _ _ _ _ hcall
              have hm2 := sm_runW_mono _ _ _ _ _ _ _ _ _ hr
              refine sm_callW hG hgw hT hx hb hml hown hts hK hS hP (hL.1.trans hlen) hF hlocs d1 d2 d4 hs hM1 hc1 hc2 hcall (by show d1' + 3 ≤ d1' + 1 + 9; omega) (by show 64 * d1' + 128 ≤ 64 * (d1' + 1) + 256; omega) ⟨by show _ ≤ h'.length - h0.length; omega, by show _ ≤ sm_sl h' - sm_sl h0; omega⟩ ?_
              intro H1 locs1 hP1 hF1 hl1
              have e1 : h.length - h0.length + (h1.length - h.length) = h1.length - h0.length := by omega
              have e2 : sm_sl h - sm_sl h0 + (sm_sl h1 - sm_sl h) = sm_sl h1 - sm_sl h0 := by omega
              rw [e1, e2]
              exact ih (d1' + 1) mi (pc + 3) ls (sm_back v1 r) h1 v h' _ hM hr hlen p e s m args below meth c H1 locs1 LS h0 hx hb hrt hml hhd hown hmn hts hEx hN hlocks hK hS hP1 hL (fun q hq => (hF1 q hq).trans (hF q hq)) (by have z1 := hP.1; have z2 := hP1.1; omega) hl1 (by omega) (by omega)
            · split at hr
              · next x1 h1 hcall =>
                split at hr
                · next hp hfind =>
                  have hm1 := sm_runT_mono _ _ _ _ _ _ _ _ _ hcall
                  have hm2 := sm_runW_mono _ _ _ _ _ _ _ _ _ hr
                  obtain ⟨⟨X, TX, hclx⟩, hokh⟩ := d6 x1 hp hfind
                  obtain ⟨no1, no2⟩ := d7 ⟨x1, hp, hfind⟩
                  rcases sm_call_inv hs with ⟨idx, k, n1, z, -, -⟩ | ⟨idx, k, n1, b, bs, z, -, -, -⟩ | ⟨idx, k, n1, ps, b, bs, ci, fs, rfl, rfl, ha, rfl, hbc, hpk⟩
                  · exact (no1 idx z).elim
                  · exact (no2 idx z).elim
                  · simp only [sm_lenOk, beq_iff_eq] at d2
                    subst d2
                    obtain ⟨C, T, N, w1, w2, w3, w4, w5, w6⟩ := d5 idx k n1 ps ci m1 rfl rfl hpk
                    obtain ⟨q1, q2, q3, q4, -, -⟩ := hG m1 _ hM1
                    dsimp only at q1 q4
                    obtain ⟨ea, el⟩ := sm_args_inv ha
                    have hst : (st.map (sm_mv (sm_ad N0 cs))) = (bs.map (sm_mv (sm_ad N0 cs))).reverse ++ .ref (sm_ad N0 cs b) :: r.map (sm_mv (sm_ad N0 cs)) := by rw [ea]; simp [sm_mv]
                    have hrc := sm_recv hP hS.2.2.2.2.2 hF hK hbc (sm_nm_of w1)
                    obtain ⟨cellB, hcB, hoB, hclB⟩ := hrc
                    have hel : (bs.map (sm_mv (sm_ad N0 cs))).length = n1 := by rw [List.length_map]; simpa using el
                    have hMet := sm_metT (l := l) (D := D) (tys := tys) (N0 := N0) (cs := cs) (as := .ref b :: bs) hG hgw hT hfl hGT hM1 hcall hc1
                    intro T0 hT0 X0
                    obtain ⟨T1, L, X1, hL1, hP1, hF1, st1⟩ := sm_callVT X0 hx (C := C) (bytes := (Y m1).2.1) (maxL := nl1) (ret := (Y m1).2.2) hown (hts _ w4) (hts _ w2) (hts _ w5) (hts _ q1) (hts _ w3) q3 hMet sm_blindT rfl rfl (by show d1' + 8 + 1 ≤ d1' + 1 + 9; omega) (by show 8 + (nl1 + 11) + (64 * d1' + 160) ≤ 64 * (d1' + 1) + 256; omega) (pay_in hts (sm_goodIn hgw q1)) List.mem_cons_self (by rw [hT0]; exact hcB) hoB hclB (g := F0 m pc LS (st.map (sm_mv (sm_ad N0 cs)))) rfl (by show LS.size = c.maxLocals; rw [hL.1, hlen, hml]) (argsL := bs.map (sm_mv (sm_ad N0 cs))) (rest := r.map (sm_mv (sm_ad N0 cs))) (fun sig hsig => by have h2 := w6; unfold sm_par at h2; rw [hsig] at h2; exact hel.trans (Option.some.inj h2).symm) hst (sm_catsum hc2) (by rw [hb]; exact d1) ⟨by show _ ≤ h'.length - h0.length; omega, by show _ ≤ sm_sl h' - sm_sl h0; omega⟩ (fun U hU hW => ⟨⟨rfl, by rw [hU, hT0]; exact hP, va_K.moved hW.alike hK, hS.at_ hW (fun q hq => by rw [hU, hT0]; exact hF q hq)⟩, hEx.at_ hW (fun q hq => by rw [hU, hT0]; exact hF q hq)⟩)
                    rw [hT0] at hF1
                    have hexc : h1[h1.length - 1]? = some (sm_exc x1) := by
                      obtain ⟨h2, rfl, -⟩ := sm_runT_last _ _ _ _ _ _ _ _ _ hcall
                      simp
                    have hexC : sm_C ≤ h1.length - 1 := by
                      obtain ⟨h2, e2, hl2⟩ := sm_runT_last _ _ _ _ _ _ _ _ _ hcall
                      have hl3 := hP.2.1
                      rw [e2, List.length_append, List.length_singleton]
                      omega
                    obtain ⟨r9, v1, cell, v2, v3, v4, -⟩ := hP1.2.2.2 _ _ hexC hexc
                    obtain ⟨kx, hkx⟩ := (hK.1 x1 _ hclx).2.2
                    obtain ⟨vm', X2, st2⟩ := sm_caught X1 (own := (YW mi).1.cls) (g := F0 m pc LS (r.map (sm_mv (sm_ad N0 cs)))) rfl al hhd hown hts hK hN v2 v4 v3 ⟨kx, hkx.1⟩ hokh hfind
                    have e1 : h.length - h0.length + (h1.length - h.length) = h1.length - h0.length := by omega
                    have e2 : sm_sl h - sm_sl h0 + (sm_sl h1 - sm_sl h) = sm_sl h1 - sm_sl h0 := by omega
                    rw [e1, e2] at X2
                    have hW2 := ih (d1' + 1) mi hp ls [.ref (h1.length - 1)] h1 v h' _ hM hr hlen p e s m args below meth c T1.heap (locs ++ L) LS h0 hx hb hrt hml hhd hown hmn hts hEx hN hlocks hK hS hP1 hL (fun q hq => (hF1 q hq).trans (hF q hq)) (by have z1 := hP.1; have z2 := hP1.1; omega) (fun x hx => (List.mem_append.mp hx).elim (hlocs x) (hL1 x)) (by omega) (by omega)
                    obtain ⟨t, t1, t2⟩ := hW2 (T1.setVm vm') rfl X2
                    exact ⟨t, st1 t (st2 t t1), t2⟩
                · cases hr
              · cases hr
          · cases hr
        · cases hr
      · cases hr
    · cases hr
end SMZ
/-! THE LAW's OWN RUN: it calls methods, and methods with handlers -/
def sm_runL (P : Nat → Option sm_M) (PW : Nat → Option sm_MW) (tab : List (Option sm_I)) : Nat → Nat → Nat → sm_L → List Value → sm_H → Option (Option Value × sm_H)
  | 0, _, _, _, _, _ => none
  | n + 1, d, pc, ls, st, h => match tab[pc]? with
      | some (some q) => match sm_step q pc ls st h with
        | some (.inl (pc', ls', st', h')) => sm_runL P PW tab n d pc' ls' st' h'
        | some (.inr (.inl v)) => some (v, h)
        | some (.inr (.inr (m', as, r))) => match d with
          | d' + 1 => match PW m' with
            | some ((nl, _, _), _) => if (sm_slots as).length ≤ nl ∧ (r.map fun v => v.category).sum ≤ 8 then (match sm_runW P PW n d' m' 0 (sm_entry nl as) [] h with
              | some (v, h') => sm_runL P PW tab n d (pc + 3) ls (sm_back v r) h'
              | none => none) else none
            | none => match P m' with
              | some (nl, _, _) => if (sm_slots as).length ≤ nl ∧ (r.map fun v => v.category).sum ≤ 8 then (match sm_run P n d' m' 0 (sm_entry nl as) [] h with
                | some (v, h') => sm_runL P PW tab n d (pc + 3) ls (sm_back v r) h'
                | none => none) else none
              | none => none
          | 0 => none
        | none => none
      | _ => none
theorem sm_runL_mono {P : Nat → Option sm_M} {PW : Nat → Option sm_MW} {tab : List (Option sm_I)} : ∀ (n d pc : Nat) (ls : sm_L) (st : List Value) (h : sm_H) (v : Option Value) (h' : sm_H), sm_runL P PW tab n d pc ls st h = some (v, h') → h.length ≤ h'.length ∧ sm_sl h ≤ sm_sl h' := by
  intro n
  induction n with
  | zero => intro d pc ls st h v h' hr; simp [sm_runL] at hr
  | succ n ih =>
    intro d pc ls st h v h' hr
    unfold sm_runL at hr
    split at hr
    · split at hr
      · next hs =>
        have h1 := sm_step_mono hs
        have h2 := ih _ _ _ _ _ _ _ hr
        exact ⟨Nat.le_trans h1.1 h2.1, Nat.le_trans h1.2 h2.2⟩
      · cases hr; exact ⟨Nat.le_refl _, Nat.le_refl _⟩
      · split at hr
        · split at hr
          · split at hr
            · split at hr
              · next hc =>
                have g1 := sm_runW_mono _ _ _ _ _ _ _ _ _ hc
                have g2 := ih _ _ _ _ _ _ _ hr
                exact ⟨Nat.le_trans g1.1 g2.1, Nat.le_trans g1.2 g2.2⟩
              · cases hr
            · cases hr
          · split at hr
            · split at hr
              · split at hr
                · next hc =>
                  have g1 := sm_run_mono _ _ _ _ _ _ _ _ _ hc
                  have g2 := ih _ _ _ _ _ _ _ hr
                  exact ⟨Nat.le_trans g1.1 g2.1, Nat.le_trans g1.2 g2.2⟩
                · cases hr
              · cases hr
            · cases hr
        · cases hr
      · cases hr
    · cases hr
abbrev sm_hh (al : List (Nat × Nat × Nat × Nat × Nat)) : List (Nat × Nat × Nat × Nat) := al.map (fun q => (q.1, q.2.1, q.2.2.1, q.2.2.2.1))
section SML
variable {l : Launch} {D : va_G} {cl : List vw_C} {tys : List (ClassId × FieldType)} {N0 : Nat} {cs : Nat → Nat} {Ts : List Cond} {sx : List (String × Nat × String × Nat)} {zx : List (String × String × String × Nat)} {oc : (List (Nat × Nat × String × String × String × Value) × List (String × Nat × MethodName × String) × List MethodName)} {K : sm_H} {Y YW : Nat → sm_Y} {P : Nat → Option sm_M} {PW : Nat → Option sm_MW} {ex : List Cond} {nc : List (Nat × Nat)}
/-- what a method with handlers asks of its start -/
def sm_PcW (D : va_G) (cl : List vw_C) (tys : List (ClassId × FieldType)) (sx : List (String × Nat × String × Nat)) (zx : List (String × String × String × Nat)) (oc : (List (Nat × Nat × String × String × String × Value) × List (String × Nat × MethodName × String) × List MethodName)) (K : sm_H) (ex : List Cond) (nc : List (Nat × Nat)) (N0 : Nat) (cs : Nat → Nat) (as : List Value) (h : sm_H) : Array Value → State → Prop :=
  fun v U => sm_PcT D cl tys sx zx oc K ex N0 cs as h v U ∧ sm_N D nc U
theorem sm_blindW {as : List Value} {h : sm_H} : FrameBlind (sm_PcW D cl tys sx zx oc K ex nc N0 cs as h) := fun a U g mk q => ⟨sm_blindT a U g mk q.1, fun z hz => q.2 z hz⟩
theorem sm_metW (hG : sm_Good Ts sx zx oc K cl Y P) (hGT : sm_GoodT Ts sx ex cl Y P) (hGW : ∀ mi M, PW mi = some M → sm_okW Ts sx zx oc K cl nc Y YW mi M) (hgw : ∀ w ∈ Ts, goodWord w = true) (hT : sm_T tys) (hfl : l.flags = pinnedFlags ++ [noTraceFlag])
    {n d mi : Nat} {M : sm_MW} {as : List Value} {h h' : sm_H} {v : Option Value} (hM : PW mi = some M) (hr : sm_runW P PW n d mi 0 (sm_entry M.1.1 as) [] h = some (v, h')) (hl : (sm_slots as).length ≤ M.1.1) :
    Met l (YW mi).1 (Cond.codeWith (YW mi).1 (YW mi).2.1 M.1.1 (YW mi).2.2 (sm_hh M.2) :: Ts) (sm_roomW d (h'.length - h.length) (sm_sl h' - sm_sl h)) (sm_PcW D cl tys sx zx oc K ex nc N0 cs as h) (sm_Qc D cl tys N0 cs K v h') (h'.length - h.length) (sm_sl h' - sm_sl h) (fun q => N0 ≤ q) := by
  obtain ⟨-, g2, -⟩ := hGW mi M hM
  refine va_MetW (cc := (YW mi).2.1) (maxL := M.1.1) (ret := (YW mi).2.2) g2 rfl ?_
  intro p e s m args below meth c s₁ B hml hv
  obtain ⟨⟨⟨rfl, hP, hK, hS⟩, hEx⟩, hN⟩ := hv
  have hts := atoms_spec (ws := Cond.codeWith (YW mi).1 (YW mi).2.1 M.1.1 (YW mi).2.2 (sm_hh M.2) :: Ts) B.pre
  obtain ⟨m9, meth9, c9, z1, z2, z3, -, -, z6, -⟩ := Cond.codeWith_spec (hts _ List.mem_cons_self)
  cases B.named.symm.trans z1
  cases B.method.symm.trans z2
  cases (Stand.of_body B).code.symm.trans z3
  rw [lg_entry_eq]
  have := sm_soundW hG hGT hGW hgw hT hfl n d mi 0 (sm_entry M.1.1 as) [] h v h' M hM hr (by simp [sm_entry]; omega) p e s m _ below meth c s.heap [] _ h B.exec B.bytes B.returns hml z6 (findClass_of_methodNamed B.named) (name_of_methodNamed B.named B.method).1 (fun w hw => hts w (List.mem_cons_of_mem _ hw)) hEx hN B.notSynchronized hK hS hP (sm_entry_LR hl) (fun _ _ => rfl) (Nat.le_refl _) (fun x hx => by cases hx) (Nat.le_refl _) (Nat.le_refl _)
  rw [Nat.sub_self, Nat.sub_self] at this
  exact this
variable {p : Program} {e : Env} {R : Room} {s : State} {m : MethodId} {args : Array Value} {below : List Frame} {meth : Method} {c : Code} {H : Heap} {locs : List Loc} {cells slots : Nat} {Q : State → Prop}
/-- a static call of a method with handlers -/
theorem sm_runSW {y : MethodName} {bytes cc : ByteArray} {maxL nL mc ms n index : Nat} {ret : Option FieldType} {hh : List (Nat × Nat × Nat × Nat)} {ws : List Cond} {rm : Room} {Pc : Array Value → State → Prop} {Qc : Array Value → State → Outcome → State → Prop} {free : Addr → Prop} {own : String} {As rest : List Value} {g : JFrame}
    (S : CallFix p m c cc nL s args Ts own) (hM : Met l y ws rm Pc Qc mc ms free) (hrc : rm.cells = mc) (hrs : rm.slots = ms) (hR : rm.frames + 1 ≤ R.frames ∧ 8 + (maxL + 11) + rm.locals ≤ R.locals) (hws : ∀ w ∈ ws, ∀ (a' : Array Value) (U : State), s.WarmedH U.vm → w.before a' U = true) (hcw : Cond.codeWith y bytes maxL ret hh ∈ ws)
    (hcode : (Cond.codeWith y bytes maxL ret hh).before args s = true) (hini : (Cond.initialized y.cls).before args s = true) (hstat : (Cond.static y).before args s = true) (hlink : (Cond.methodLink own index y).before args s = true) (hy : sm_nmh y.cls) (hpar : sm_par y.desc = some n) (hp : PreS s H Pc As)
    (hg : g.method = m) (hn : As.length = n) (hsize : g.locals.size = nL) (hstack : g.stack = As.reverse ++ rest) (hW : 2 * g.monitorRoom + (rest.map fun v => v.category).sum ≤ 8) (hdg : decode cc g.pc = .ok (.invokestatic index, 3)) (hf : cells + mc ≤ R.cells ∧ slots + ms ≤ R.slots) :
    va_Run p l e R s m args below meth c H locs cells slots mc ms g rest (Qc As.toArray) free := by
  have hK : Back l R p e below s args y 3 8 (PreOf R mc ms Pc) (PostOf Qc mc ms free) := va_backW (bytes := bytes) (maxL := maxL) (ret := ret) (hh := hh) hM hp.1 hrc hrs hR.1 hR.2 hws hcw (fun a' U hW => word_at hW (Or.inl (by first | rfl | simp [Cond.onTables, Cond.keeps, Cond.steady])) hini)
  obtain ⟨hx, hb, hml, ho, -⟩ := S
  obtain ⟨mk, methM, cM, hnamed, hmethM, -, -, -, -, -, -, hsigM⟩ := Cond.codeWith_spec hcode
  have hstatic : methM.isStatic = true := Cond.static_spec hnamed hmethM hstat
  obtain ⟨kP, hkP, -⟩ := className_of_methodNamed hnamed
  have hinitP : kP.init = .initialized := Cond.initialized_spec (findClass_of_methodNamed hnamed) hkP hini
  intro T hT X
  obtain ⟨vm₁, X₁, hstep₁⟩ := X.invokestatic hx ho hlink hnamed hmethM hstatic hkP hinitP hy (g := g) hg (argsL := As) (rest := rest) (by
      have h2 := hpar
      unfold sm_par at h2
      rw [hsigM] at h2
      exact hn.trans (Option.some.inj h2).symm) hstack (by rw [hb]; exact hdg)
  obtain ⟨v, ⟨U', l2, c2, s2⟩, X', ⟨g', mk', t, L, e1, e2, hq, h1, hL, h2, h3⟩, st⟩ := hK m meth c ⟨T.setVm vm₁, locs, cells, slots⟩ { g with stack := rest } (.invokestatic index) mk As.toArray X₁ hg (hsize.trans hml.symm) (by rw [hb]; exact hdg) hW (X₁.named hnamed) ⟨hf.1, hf.2, hp.2 (T.setVm vm₁) hT X₁.warmed⟩
  dsimp only [Pt.U, Pt.locs, Pt.cells, Pt.slots] at X' e1 e2 h1 h2 h3 st
  subst h1; subst h2; subst h3
  exact ⟨v, (T.setVm vm₁).calling g' mk' As.toArray, t, U', L, hT, X', hL, e1, e2, hq, fun target h => hstep₁ _ fun acts => by rw [doInvoke_state]; exact st.trans h⟩
end SML
/-! THE LAW's RUN is a run of the JVM -/
section SMLL
variable {l : Launch} {D : va_G} {cl : List vw_C} {tys : List (ClassId × FieldType)} {N0 : Nat} {cs : Nat → Nat} {Ts : List Cond} {sx : List (String × Nat × String × Nat)} {zx : List (String × String × String × Nat)} {oc : (List (Nat × Nat × String × String × String × Value) × List (String × Nat × MethodName × String) × List MethodName)} {K : sm_H} {Y YW : Nat → sm_Y} {P : Nat → Option sm_M} {PW : Nat → Option sm_MW} {ex : List Cond} {nc : List (Nat × Nat)}
/-- the tables are right of the law -/
def sm_okL (Ts : List Cond) (sx : List (String × Nat × String × Nat)) (zx : List (String × String × String × Nat)) (oc : (List (Nat × Nat × String × String × String × Value) × List (String × Nat × MethodName × String) × List MethodName)) (K : sm_H) (cl : List vw_C) (Y YW : Nat → sm_Y) (P : Nat → Option sm_M) (PW : Nat → Option sm_MW) (own mn : String) (bytes : ByteArray) (tab : List (Option sm_I)) : Prop :=
  ∀ (pc : Nat) (q : sm_I), tab[pc]? = some (some q) → decode bytes pc = .ok (q.1, q.2.1) ∧ sm_lenOk q.1 q.2.1 = true ∧ sm_okI Ts sx zx oc K cl own mn pc q.1 q.2.2 ∧
    ((∀ k mi n, q.2.2 = [k, mi, n] → (PW mi).isSome → ∃ idx, q.1 = .invokestatic idx ∧ Cond.static (YW mi).1 ∈ Ts ∧ Cond.initialized (YW mi).1.cls ∈ Ts ∧ sm_par (YW mi).1.desc = some n ∧ Cond.methodLink own idx (YW mi).1 ∈ Ts) ∧
     (∀ idx k n ps ci mi, q.1 = .invokevirtual idx → q.2.2 = k :: n :: ps → sm_pick ci ps = some mi → PW mi = none) ∧
     ((∀ k mi n, q.2.2 = [k, mi, n] → PW mi = none) → sm_okC Ts oc cl Y own q.1 q.2.2))
set_option maxHeartbeats 4000000 in
set_option maxRecDepth 100000 in
theorem sm_soundL (hG : sm_Good Ts sx zx oc K cl Y P) (hGT : sm_GoodT Ts sx ex cl Y P) (hGW : ∀ mi M, PW mi = some M → sm_okW Ts sx zx oc K cl nc Y YW mi M) (hgw : ∀ w ∈ Ts, goodWord w = true) (hT : sm_T tys) (hfl : l.flags = pinnedFlags ++ [noTraceFlag])
    {p : Program} {e : Env} {R : Room} {s : State} {m : MethodId} {args : Array Value} {below : List Frame} {meth : Method} {c : Code} {Q : State → Prop} {own : String} {cc : ByteArray} {nl : Nat} {tab : List (Option sm_I)} {h0 : sm_H}
    (hGL : sm_okL Ts sx zx oc K cl Y YW P PW own meth.name cc tab) (hx : p.tables.exec = Jvm.exec) (hb : c.code = cc) (hml : c.maxLocals = nl) (hown : s.vm.findClass own = some m.cls) (hts : ∀ w ∈ Ts, w.before args s = true) (hEx : sm_Ex ex N0 s) (hN : sm_N D nc s) (hK : va_K D cl tys s) (hS : sm_X cl K sx zx oc N0 cs s)
    (hret : ∀ (pc : Nat) (LS : Array Slot) (H : Heap) (locs : List Loc) (cells slots : Nat), decode cc pc = .ok (.ireturn, 1) → (∀ x ∈ locs, N0 ≤ x.base) → cells ≤ R.cells → slots ≤ R.slots → W p l e R s m args below meth c H locs cells slots Q (F0 m pc LS [.int 1])) :
  ∀ (n d pc : Nat) (ls : sm_L) (st : List Value) (h : sm_H) (h' : sm_H), sm_runL P PW tab n d pc ls st h = some (some (.int 1), h') → ls.length = nl → d + 20 ≤ R.frames → 64 * d + 400 ≤ R.locals → h'.length - h0.length ≤ R.cells → sm_sl h' - sm_sl h0 ≤ R.slots →
  ∀ (H : Heap) (locs : List Loc) (LS : Array Slot), sm_P D cl tys N0 cs K h H → sm_LR (sm_ad N0 cs) ls LS → (∀ q, q < N0 → H[q]? = s.heap[q]?) → s.heap.size ≤ H.size → (∀ x ∈ locs, N0 ≤ x.base) → h0.length ≤ h.length → sm_sl h0 ≤ sm_sl h →
    W p l e R s m args below meth c H locs (h.length - h0.length) (sm_sl h - sm_sl h0) Q (F0 m pc LS (st.map (sm_mv (sm_ad N0 cs)))) := by
  intro n
  induction n with
  | zero => intro d pc ls st h h' hr; simp [sm_runL] at hr
  | succ n ih =>
    intro d pc ls st h h' hr hlen hfr hlo hcR hsR H locs LS hP hL hF hZ0 hlocs hz1 hz2
    have hmono := sm_runL_mono _ _ _ _ _ _ _ _ hr
    unfold sm_runL at hr
    split at hr
    · next q hq =>
      obtain ⟨d1, d2, d3, d5, d6, d4⟩ := hGL pc q hq
      obtain ⟨i, len, rs⟩ := q
      dsimp only at d1 d2 d3 d4 d5 d6
      split at hr
      · next pc1 ls1 st1 h1 hs =>
        have hm1 := sm_step_mono hs
        have hm2 := sm_runL_mono _ _ _ _ _ _ _ _ hr
        refine sm_next (h' := h1) hx hb hts hown hK hT hS hF hZ0 d3 d2 d1 hP hL hlocs ⟨by omega, by omega⟩ (by rw [hml, hlen]) ⟨by omega, by omega⟩ hs ?_
        intro H' locs' LS' hP' hL' hF' hlocs'
        have e1 : h.length - h0.length + (h1.length - h.length) = h1.length - h0.length := by omega
        have e2 : sm_sl h - sm_sl h0 + (sm_sl h1 - sm_sl h) = sm_sl h1 - sm_sl h0 := by omega
        rw [e1, e2]
        exact ih d pc1 ls1 st1 h1 h' hr (by rw [sm_step_len hs]; exact hlen) hfr hlo hcR hsR H' locs' LS' hP' hL' (fun q hq => (hF' q hq).trans (hF q hq)) (by have z1 := hP.1; have z2 := hP'.1; omega) hlocs' (by omega) (by omega)
      · next v1 hs =>
        cases hr
        rcases sm_ret_inv hs with ⟨rfl, x, rfl, z⟩ | ⟨rfl, x, rfl, z⟩ | ⟨rfl, x, rfl, z⟩ | ⟨rfl, rfl, z⟩
        · cases z
          simp only [sm_lenOk, beq_iff_eq] at d2
          subst d2
          exact hret pc LS H locs _ _ d1 hlocs hcR hsR
        · cases z
        · cases z
        · cases z
      · next m1 as r hs =>
        split at hr
        · next d1' =>
          split at hr
          · next nl1 k1 tab1 al1 hM1 =>
            split at hr
            · next hc =>
              obtain ⟨hc1, hc2⟩ := hc
              split at hr
              · next v1 h1 hcall =>
                have hm1 := sm_runW_mono _ _ _ _ _ _ _ _ _ hcall
                have hm2 := sm_runL_mono _ _ _ _ _ _ _ _ hr
                obtain ⟨q1, q2, q3, q4, -, -⟩ := hGW m1 _ hM1
                dsimp only at q1 q4
                have hMet := sm_metW (l := l) (D := D) (tys := tys) (N0 := N0) (cs := cs) (as := as) hG hGT hGW hgw hT hfl hM1 hcall hc1
                have hgi : GoodIn Ts (Cond.codeWith (YW m1).1 (YW m1).2.1 nl1 (YW m1).2.2 (sm_hh al1) :: Ts) := sm_goodIn hgw q1
                have hpre : ∀ U : State, U.heap = H → s.WarmedH U.vm → sm_PcW D cl tys sx zx oc K ex nc N0 cs as h (as.map (sm_mv (sm_ad N0 cs))).toArray U := fun U hU hW => ⟨⟨⟨rfl, by rw [hU]; exact hP, va_K.moved hW.alike hK, hS.at_ hW (fun q hq => by rw [hU]; exact hF q hq)⟩, hEx.at_ hW (fun q hq => by rw [hU]; exact hF q hq)⟩, fun z hz => by rw [hW.alike.assignable]; exact hN z hz⟩
                have goOn : ∀ (a : Array Value), va_Run p l e R s m args below meth c H locs (h.length - h0.length) (sm_sl h - sm_sl h0) (h1.length - h.length) (sm_sl h1 - sm_sl h) (F0 m pc LS (st.map (sm_mv (sm_ad N0 cs)))) (r.map (sm_mv (sm_ad N0 cs))) (sm_Qc D cl tys N0 cs K v1 h1 a) (fun q => N0 ≤ q) →
                    W p l e R s m args below meth c H locs (h.length - h0.length) (sm_sl h - sm_sl h0) Q (F0 m pc LS (st.map (sm_mv (sm_ad N0 cs)))) := by
                  intro a hrun
                  refine sm_after hrun hlocs fun H1 locs1 hP1 hF1 hl1 => ?_
                  have e1 : h.length - h0.length + (h1.length - h.length) = h1.length - h0.length := by omega
                  have e2 : sm_sl h - sm_sl h0 + (sm_sl h1 - sm_sl h) = sm_sl h1 - sm_sl h0 := by omega
                  rw [e1, e2, ← sm_back_eq]
                  exact ih (d1' + 1) (pc + 3) ls (sm_back v1 r) h1 h' hr hlen hfr hlo hcR hsR H1 locs1 LS hP1 hL (fun q hq => (hF1 q hq).trans (hF q hq)) (by have z1 := hP.1; have z2 := hP1.1; omega) hl1 (by omega) (by omega)
                have hsome : (PW m1).isSome = true := by rw [hM1]; rfl
                rcases sm_call_inv hs with ⟨idx, k, n1, rfl, rfl, ha⟩ | ⟨idx, k, n1, b, bs, rfl, rfl, ha, rfl⟩ | ⟨idx, k, n1, ps, b, bs, ci, fs, rfl, rfl, ha, rfl, hbc, hpk⟩
                · simp only [sm_lenOk, beq_iff_eq] at d2
                  subst d2
                  obtain ⟨idx', z1, w1, w2, w3, w4⟩ := d5 k m1 n1 rfl hsome
                  cases z1
                  obtain ⟨ea, el⟩ := sm_args_inv ha
                  have hst : (st.map (sm_mv (sm_ad N0 cs))) = (as.map (sm_mv (sm_ad N0 cs))).reverse ++ r.map (sm_mv (sm_ad N0 cs)) := by rw [ea, List.map_append, List.map_reverse]
                  exact goOn _ (sm_runSW (bytes := (YW m1).2.1) (maxL := nl1) (ret := (YW m1).2.2) (hh := sm_hh al1) (As := as.map (sm_mv (sm_ad N0 cs))) ⟨hx, hb, hml, hown, hts⟩ hMet rfl rfl ⟨by have z : (sm_roomW d1' (h1.length - h.length) (sm_sl h1 - sm_sl h)).frames = d1' + 9 := rfl; rw [z]; omega, by have z : (sm_roomW d1' (h1.length - h.length) (sm_sl h1 - sm_sl h)).locals = 64 * d1' + 256 := rfl; rw [z]; omega⟩ (pay_in hts hgi) List.mem_cons_self (hts _ q1) (hts _ w2) (hts _ w1) (hts _ w4) q3 w3 ⟨sm_blindW, hpre⟩ rfl (by rw [List.length_map]; exact el) (hL.1.trans hlen) hst (sm_catsum hc2) d1 ⟨by omega, by omega⟩)
                · obtain ⟨idx', z1, -⟩ := d5 k m1 n1 rfl hsome
                  cases z1
                · have := d6 idx k n1 ps ci m1 rfl rfl hpk
                  rw [hM1] at this
                  cases this
              · cases hr
            · cases hr
          · next hMn =>
            split at hr
            · next nl1 k1 tab1 hM1 =>
              split at hr
              · next hc =>
                obtain ⟨hc1, hc2⟩ := hc
                split at hr
                · next v1 h1 hcall =>
                  have hm1 := sm_run_mono _ _ _ _ _ _ _ _ _ hcall
                  have hm2 := sm_runL_mono _ _ _ _ _ _ _ _ hr
                  have hcc : sm_okC Ts oc cl Y own i rs := d4 (fun k mi n1 z => by
                    rcases sm_call_inv hs with ⟨idx, k2, n2, -, z2, -⟩ | ⟨idx, k2, n2, b, bs, -, z2, -, -⟩ | ⟨idx, k2, n2, ps, b, bs, ci, fs, z3, z2, ha, -, -, hpk⟩
                    · dsimp only at z2
                      rw [z] at z2
                      cases z2
                      exact hMn
                    · dsimp only at z2
                      rw [z] at z2
                      cases z2
                      exact hMn
                    · dsimp only at z2
                      rw [z] at z2
                      cases z2
                      simp [sm_pick] at hpk)
                  refine sm_callW hG hgw hT hx hb hml hown hts hK hS hP (hL.1.trans hlen) hF hlocs d1 d2 hcc hs hM1 hc1 hc2 hcall (by omega) (by omega) ⟨by omega, by omega⟩ ?_
                  intro H1 locs1 hP1 hF1 hl1
                  have e1 : h.length - h0.length + (h1.length - h.length) = h1.length - h0.length := by omega
                  have e2 : sm_sl h - sm_sl h0 + (sm_sl h1 - sm_sl h) = sm_sl h1 - sm_sl h0 := by omega
                  rw [e1, e2]
                  exact ih (d1' + 1) (pc + 3) ls (sm_back v1 r) h1 h' hr hlen hfr hlo hcR hsR H1 locs1 LS hP1 hL (fun q hq => (hF1 q hq).trans (hF q hq)) (by have z1 := hP.1; have z2 := hP1.1; omega) hl1 (by omega) (by omega)
                · cases hr
              · cases hr
            · cases hr
        · cases hr
      · cases hr
    · cases hr
end SMLL
/-! ENDS: a run of the small machine that comes to its end; more steps and more depth do no harm -/
theorem sm_run_more {P : Nat → Option sm_M} : ∀ (n d m pc : Nat) (ls : sm_L) (st : List Value) (h : sm_H) (r : Option Value × sm_H), sm_run P n d m pc ls st h = some r → ∀ n' d', n ≤ n' → d ≤ d' → sm_run P n' d' m pc ls st h = some r := by
  intro n
  induction n with
  | zero => intro d m pc ls st h r hr; simp [sm_run] at hr
  | succ n ih =>
    intro d m pc ls st h r hr n' d' hn hd
    obtain ⟨n1, rfl⟩ : ∃ k, n' = k + 1 := ⟨n' - 1, by omega⟩
    simp only [sm_run] at hr ⊢
    cases hP : P m with
    | none => rw [hP] at hr; cases hr
    | some M =>
      obtain ⟨a, k, tab⟩ := M
      rw [hP] at hr
      dsimp only at hr ⊢
      cases hq : tab[pc]? with
      | none => rw [hq] at hr; cases hr
      | some o =>
        cases o with
        | none => rw [hq] at hr; cases hr
        | some q =>
          rw [hq] at hr
          dsimp only at hr ⊢
          cases hs : sm_step q pc ls st h with
          | none => rw [hs] at hr; cases hr
          | some R =>
            rw [hs] at hr
            rcases R with ⟨pc1, ls1, st1, h1⟩ | v | ⟨m1, as, r1⟩
            · exact ih _ _ _ _ _ _ _ hr _ _ (by omega) hd
            · exact hr
            · dsimp only at hr ⊢
              cases d with
              | zero => cases hr
              | succ d0 =>
                obtain ⟨d1, rfl⟩ : ∃ k, d' = k + 1 := ⟨d' - 1, by omega⟩
                try dsimp only at hr ⊢
                cases hP1 : P m1 with
                | none => rw [hP1] at hr; cases hr
                | some M1 =>
                  obtain ⟨nl, k1, t1⟩ := M1
                  rw [hP1] at hr
                  dsimp only at hr ⊢
                  split at hr
                  · next hc =>
                    rw [if_pos hc]
                    cases hcall : sm_run P n d0 m1 0 (sm_entry nl as) [] h with
                    | none => rw [hcall] at hr; cases hr
                    | some vr =>
                      obtain ⟨v1, h1⟩ := vr
                      rw [hcall] at hr
                      rw [ih _ _ _ _ _ _ _ hcall n1 d1 (by omega) (by omega)]
                      exact ih _ _ _ _ _ _ _ hr _ _ (by omega) (by omega)
                  · cases hr
/-- a run from here ends with Q -/
def ab_Ends (P : Nat → Option sm_M) (d m pc : Nat) (ls : sm_L) (st : List Value) (h : sm_H) (Q : Option Value → sm_H → Prop) : Prop := ∃ (n : Nat) (v : Option Value) (h' : sm_H), sm_run P n d m pc ls st h = some (v, h') ∧ Q v h'
section ABE
variable {P : Nat → Option sm_M} {d m pc : Nat} {ls : sm_L} {st : List Value} {h : sm_H} {Q Q' : Option Value → sm_H → Prop} {M M' : sm_M} {q : sm_I}
theorem ab_Ends.imp (k : ab_Ends P d m pc ls st h Q) (hQ : ∀ v h', Q v h' → Q' v h') : ab_Ends P d m pc ls st h Q' := by
  obtain ⟨n, v, h', hr, hq⟩ := k
  exact ⟨n, v, h', hr, hQ v h' hq⟩
theorem ab_Ends.deep {d' : Nat} (k : ab_Ends P d m pc ls st h Q) (hd : d ≤ d') : ab_Ends P d' m pc ls st h Q := by
  obtain ⟨n, v, h', hr, hq⟩ := k
  exact ⟨n, v, h', sm_run_more _ _ _ _ _ _ _ _ hr n d' (Nat.le_refl _) hd, hq⟩
theorem ab_Ends.step {pc' : Nat} {ls' : sm_L} {st' : List Value} {h' : sm_H} (hM : P m = some M) (hq : M.2.2[pc]? = some (some q)) (hs : sm_step q pc ls st h = some (.inl (pc', ls', st', h'))) (k : ab_Ends P d m pc' ls' st' h' Q) : ab_Ends P d m pc ls st h Q := by
  obtain ⟨n, v, h2, hr, hQ⟩ := k
  obtain ⟨a, b, tab⟩ := M
  dsimp only at hq
  refine ⟨n + 1, v, h2, ?_, hQ⟩
  simp only [sm_run, hM, hq, hs]
  exact hr
theorem ab_Ends.ret {v : Option Value} (hM : P m = some M) (hq : M.2.2[pc]? = some (some q)) (hs : sm_step q pc ls st h = some (.inr (.inl v))) (hk : sm_okret M.2.1 v = true) (hQ : Q v h) : ab_Ends P d m pc ls st h Q := by
  obtain ⟨a, b, tab⟩ := M
  dsimp only at hq hk
  refine ⟨1, v, h, ?_, hQ⟩
  simp only [sm_run, hM, hq, hs, hk, if_true]
theorem ab_Ends.call {m' : Nat} {as r : List Value} (hM : P m = some M) (hq : M.2.2[pc]? = some (some q)) (hs : sm_step q pc ls st h = some (.inr (.inr (m', as, r)))) (hM' : P m' = some M') (hl : (sm_slots as).length ≤ M'.1) (hc : (r.map fun v => v.category).sum ≤ 8)
    (k : ab_Ends P d m' 0 (sm_entry M'.1 as) [] h (fun v h' => ab_Ends P (d + 1) m (pc + 3) ls (sm_back v r) h' Q)) : ab_Ends P (d + 1) m pc ls st h Q := by
  obtain ⟨n1, v1, h1, hr1, n2, v2, h2, hr2, hQ⟩ := k
  obtain ⟨a, b, tab⟩ := M
  obtain ⟨a', b', tab'⟩ := M'
  dsimp only at hq hl hr1
  refine ⟨max n1 n2 + 1, v2, h2, ?_, hQ⟩
  have e1 := sm_run_more _ _ _ _ _ _ _ _ hr1 (max n1 n2) d (Nat.le_max_left _ _) (Nat.le_refl _)
  have e2 := sm_run_more _ _ _ _ _ _ _ _ hr2 (max n1 n2) (d + 1) (Nat.le_max_right _ _) (Nat.le_refl _)
  have hcc : (sm_slots as).length ≤ a' ∧ (r.map fun v => v.category).sum ≤ 8 := ⟨hl, hc⟩
  simp only [sm_run, hM, hq, hs, hM', e1]
  rw [if_pos hcc]
  exact e2
theorem ab_thr_none {r : sm_R} (hs : sm_step q pc ls st h = some r) : sm_thr q = none := by
  cases ht : sm_thr q with
  | none => rfl
  | some x =>
    exfalso
    unfold sm_thr at ht
    split at ht
    · next a y =>
      split at ht
      · next ha =>
        subst ha
        simp [sm_step, sm_newo] at hs
      · cases ht
    · cases ht
theorem sm_runT_more : ∀ (n d m pc : Nat) (ls : sm_L) (st : List Value) (h : sm_H) (r : Nat × sm_H), sm_runT P n d m pc ls st h = some r → ∀ n' d', n ≤ n' → d ≤ d' → sm_runT P n' d' m pc ls st h = some r := by
  intro n
  induction n with
  | zero => intro d m pc ls st h r hr; simp [sm_runT] at hr
  | succ n ih =>
    intro d m pc ls st h r hr n' d' hn hd
    obtain ⟨n1, rfl⟩ : ∃ k, n' = k + 1 := ⟨n' - 1, by omega⟩
    simp only [sm_runT] at hr ⊢
    cases hP : P m with
    | none => rw [hP] at hr; cases hr
    | some M =>
      obtain ⟨a, k, tab⟩ := M
      rw [hP] at hr
      dsimp only at hr ⊢
      cases hq : tab[pc]? with
      | none => rw [hq] at hr; cases hr
      | some o =>
        cases o with
        | none => rw [hq] at hr; cases hr
        | some q =>
          rw [hq] at hr
          dsimp only at hr ⊢
          cases ht : sm_thr q with
          | some x => rw [ht] at hr; exact hr
          | none =>
            rw [ht] at hr
            dsimp only at hr ⊢
            cases hs : sm_step q pc ls st h with
            | none => rw [hs] at hr; cases hr
            | some R =>
              rw [hs] at hr
              rcases R with ⟨pc1, ls1, st1, h1⟩ | v | ⟨m1, as, r1⟩
              · exact ih _ _ _ _ _ _ _ hr _ _ (by omega) hd
              · exact hr
              · dsimp only at hr ⊢
                cases d with
                | zero => cases hr
                | succ d0 =>
                  obtain ⟨d1, rfl⟩ : ∃ k, d' = k + 1 := ⟨d' - 1, by omega⟩
                  try dsimp only at hr ⊢
                  cases hP1 : P m1 with
                  | none => rw [hP1] at hr; cases hr
                  | some M1 =>
                    obtain ⟨nl, k1, t1⟩ := M1
                    rw [hP1] at hr
                    dsimp only at hr ⊢
                    split at hr
                    · next hc =>
                      rw [if_pos hc]
                      cases hcall : sm_run P n d0 m1 0 (sm_entry nl as) [] h with
                      | none => rw [hcall] at hr; cases hr
                      | some vr =>
                        obtain ⟨v1, h1⟩ := vr
                        rw [hcall] at hr
                        rw [sm_run_more _ _ _ _ _ _ _ _ hcall n1 d1 (by omega) (by omega)]
                        exact ih _ _ _ _ _ _ _ hr _ _ (by omega) (by omega)
                    · cases hr
/-- .. or throws, with QT -/
def ab_EndsX (P : Nat → Option sm_M) (QT : Nat → sm_H → Prop) (d m pc : Nat) (ls : sm_L) (st : List Value) (h : sm_H) (Q : Option Value → sm_H → Prop) : Prop := ab_Ends P d m pc ls st h Q ∨ ∃ (n x : Nat) (h' : sm_H), sm_runT P n d m pc ls st h = some (x, h') ∧ QT x h'
variable {QT : Nat → sm_H → Prop}
theorem ab_EndsX.step {pc' : Nat} {ls' : sm_L} {st' : List Value} {h' : sm_H} (hM : P m = some M) (hq : M.2.2[pc]? = some (some q)) (hs : sm_step q pc ls st h = some (.inl (pc', ls', st', h'))) (k : ab_EndsX P QT d m pc' ls' st' h' Q) : ab_EndsX P QT d m pc ls st h Q := by
  rcases k with k | ⟨n, x, h2, hr, hQ⟩
  · exact Or.inl (k.step hM hq hs)
  · obtain ⟨a, b, tab⟩ := M
    dsimp only at hq
    refine Or.inr ⟨n + 1, x, h2, ?_, hQ⟩
    simp only [sm_runT, hM, hq, ab_thr_none hs, hs]
    exact hr
theorem ab_EndsX.thr {x : Nat} (hM : P m = some M) (hq : M.2.2[pc]? = some (some q)) (ht : sm_thr q = some x) (hQ : QT x (h ++ [sm_exc x])) : ab_EndsX P QT d m pc ls [] h Q := by
  obtain ⟨a, b, tab⟩ := M
  dsimp only at hq
  refine Or.inr ⟨1, x, _, ?_, hQ⟩
  simp only [sm_runT, hM, hq, ht, if_true]
theorem ab_EndsX.call {m' : Nat} {as r : List Value} (hM : P m = some M) (hq : M.2.2[pc]? = some (some q)) (hs : sm_step q pc ls st h = some (.inr (.inr (m', as, r)))) (hM' : P m' = some M') (hl : (sm_slots as).length ≤ M'.1) (hc : (r.map fun v => v.category).sum ≤ 8)
    (k : ab_Ends P d m' 0 (sm_entry M'.1 as) [] h (fun v h' => ab_EndsX P QT (d + 1) m (pc + 3) ls (sm_back v r) h' Q)) : ab_EndsX P QT (d + 1) m pc ls st h Q := by
  obtain ⟨n1, v1, h1, hr1, k⟩ := k
  rcases k with k | ⟨n2, x, h2, hr2, hQ⟩
  · exact Or.inl (ab_Ends.call hM hq hs hM' hl hc ⟨n1, v1, h1, hr1, k⟩)
  · obtain ⟨a, b, tab⟩ := M
    obtain ⟨a', b', tab'⟩ := M'
    dsimp only at hq hl hr1
    refine Or.inr ⟨max n1 n2 + 1, x, h2, ?_, hQ⟩
    have e1 := sm_run_more _ _ _ _ _ _ _ _ hr1 (max n1 n2) d (Nat.le_max_left _ _) (Nat.le_refl _)
    have e2 := sm_runT_more _ _ _ _ _ _ _ _ hr2 (max n1 n2) (d + 1) (Nat.le_max_right _ _) (Nat.le_refl _)
    have hcc : (sm_slots as).length ≤ a' ∧ (r.map fun v => v.category).sum ≤ 8 := ⟨hl, hc⟩
    simp only [sm_runT, hM, hq, ab_thr_none hs, hs, hM', e1]
    rw [if_pos hcc]
    exact e2
/-- callers that wait: method, place, locals, what lies below the arguments -/
abbrev ab_CF : Type := Nat × Nat × sm_L × List Value
def ab_EndsK (P : Nat → Option sm_M) (QT : Nat → sm_H → Prop) (Q : Option Value → sm_H → Prop) : List ab_CF → Nat → Nat → Nat → sm_L → List Value → sm_H → Prop
  | [], d, m, pc, ls, st, h => ab_EndsX P QT d m pc ls st h Q
  | c :: F, d, m, pc, ls, st, h => ab_Ends P d m pc ls st h (fun v h' => ab_EndsK P QT Q F (d + 1) c.1 (c.2.1 + 3) c.2.2.1 (sm_back v c.2.2.2) h')
theorem ab_EndsK.step {F : List ab_CF} {pc' : Nat} {ls' : sm_L} {st' : List Value} {h' : sm_H} (hM : P m = some M) (hq : M.2.2[pc]? = some (some q)) (hs : sm_step q pc ls st h = some (.inl (pc', ls', st', h'))) (k : ab_EndsK P QT Q F d m pc' ls' st' h') : ab_EndsK P QT Q F d m pc ls st h := by
  cases F with
  | nil => exact ab_EndsX.step (Q := Q) hM hq hs k
  | cons c F => exact ab_Ends.step hM hq hs (show ab_Ends P d m pc' ls' st' h' _ from k)
theorem ab_EndsK.ret {F : List ab_CF} {c : ab_CF} {v : Option Value} (hM : P m = some M) (hq : M.2.2[pc]? = some (some q)) (hs : sm_step q pc ls st h = some (.inr (.inl v))) (hk : sm_okret M.2.1 v = true) (k : ab_EndsK P QT Q F (d + 1) c.1 (c.2.1 + 3) c.2.2.1 (sm_back v c.2.2.2) h) : ab_EndsK P QT Q (c :: F) d m pc ls st h :=
  ab_Ends.ret (Q := fun v h' => ab_EndsK P QT Q F (d + 1) c.1 (c.2.1 + 3) c.2.2.1 (sm_back v c.2.2.2) h') hM hq hs hk k
theorem ab_EndsK.inl {F : List ab_CF} {m' : Nat} {as r : List Value} (hM : P m = some M) (hq : M.2.2[pc]? = some (some q)) (hs : sm_step q pc ls st h = some (.inr (.inr (m', as, r)))) (hM' : P m' = some M') (hl : (sm_slots as).length ≤ M'.1) (hc : (r.map fun v => v.category).sum ≤ 8)
    (k : ab_EndsK P QT Q ((m, pc, ls, r) :: F) d m' 0 (sm_entry M'.1 as) [] h) : ab_EndsK P QT Q F (d + 1) m pc ls st h := by
  cases F with
  | nil => exact ab_EndsX.call (Q := Q) hM hq hs hM' hl hc k
  | cons c F => exact ab_Ends.call hM hq hs hM' hl hc (show ab_Ends P d m' 0 (sm_entry M'.1 as) [] h _ from k)
theorem ab_EndsK.con {F : List ab_CF} {m' : Nat} {as r : List Value} (hM : P m = some M) (hq : M.2.2[pc]? = some (some q)) (hs : sm_step q pc ls st h = some (.inr (.inr (m', as, r)))) (hM' : P m' = some M') (hl : (sm_slots as).length ≤ M'.1) (hc : (r.map fun v => v.category).sum ≤ 8)
    (k : ab_Ends P d m' 0 (sm_entry M'.1 as) [] h Q') (kk : ∀ v h', Q' v h' → ab_EndsK P QT Q F (d + 1) m (pc + 3) ls (sm_back v r) h') : ab_EndsK P QT Q F (d + 1) m pc ls st h :=
  ab_EndsK.inl hM hq hs hM' hl hc (show ab_Ends P d m' 0 (sm_entry M'.1 as) [] h _ from k.imp kk)
end ABE
/-! THE MACHINE WITH BOUNDS: of a number is known its least and its greatest value and where else it stands ('tags'); of the cells their shape alone ('sk'). All of it is first-order: a check is a computation. -/
/-- a tag: 0 a local, 1 a field, 2 a local at the head, 3 a field at the head; which (a field: cell * 128 + its place); how much more the number is than what stands there -/
abbrev ab_T : Type := Nat × Nat × Int
/-- kind (0 nothing is known, 1 int, 2 long, 3 a reference), least (or which cell), greatest, tags -/
abbrev ab_V : Type := Nat × Int × Int × List ab_T
/-- what is known of fields -/
abbrev ab_HC : Type := List (Nat × ab_V)
/-- locals, stack, fields -/
abbrev ab_A : Type := List ab_V × List ab_V × ab_HC
/-- the shape of a cell: an array (class, length, least, greatest, what it holds if that is known), or an object (class, fields: kind 0 int, 1 long, 2 reference; least, greatest) -/
abbrev ab_S : Type := (Nat × Nat × Int × Int × List Int) ⊕ (Nat × List (Nat × Int × Int))
abbrev ab_K : Type := List (Option ab_S)
def ab_fld (h : sm_H) (c : Nat) : Option Value := match h[c / 128]? with
  | some (.inr (_, fs)) => fs[c % 128]?
  | _ => none
def ab_tg (ls : sm_L) (h : sm_H) (L0 : sm_L) (h0 : sm_H) (t : ab_T) (z : Int) : Prop :=
  (t.1 = 0 → ∃ y : Int32, sm_lget ls t.2.1 = some (.int y) ∧ z = y.toInt + t.2.2) ∧
  (t.1 = 1 → ∃ y : Int32, ab_fld h t.2.1 = some (.int y) ∧ z = y.toInt + t.2.2) ∧
  (t.1 = 2 → ∃ y : Int32, sm_lget L0 t.2.1 = some (.int y) ∧ z = y.toInt + t.2.2) ∧
  (t.1 = 3 → ∃ y : Int32, ab_fld h0 t.2.1 = some (.int y) ∧ z = y.toInt + t.2.2)
def ab_okV (ls : sm_L) (h : sm_H) (L0 : sm_L) (h0 : sm_H) (a : ab_V) (v : Option Value) : Prop := match a.1 with
  | 0 => True
  | 1 => ∃ x : Int32, v = some (.int x) ∧ a.2.1 ≤ x.toInt ∧ x.toInt ≤ a.2.2.1 ∧ ∀ t ∈ a.2.2.2, ab_tg ls h L0 h0 t x.toInt
  | 2 => ∃ x : Int64, v = some (.long x) ∧ a.2.1 ≤ x.toInt ∧ x.toInt ≤ a.2.2.1
  | 3 => v = some (.ref a.2.1.toNat)
  | _ => False
def ab_okL (ls : sm_L) (h : sm_H) (L0 : sm_L) (h0 : sm_H) (al : List ab_V) : Prop := al.length = ls.length ∧ ∀ (j : Nat) (a : ab_V), al[j]? = some a → ab_okV ls h L0 h0 a (sm_lget ls j)
def ab_okSt (ls : sm_L) (h : sm_H) (L0 : sm_L) (h0 : sm_H) : List ab_V → List Value → Prop
  | [], [] => True
  | a :: r, v :: s => ab_okV ls h L0 h0 a (some v) ∧ ab_okSt ls h L0 h0 r s
  | _, _ => False
def ab_okH (ls : sm_L) (h : sm_H) (L0 : sm_L) (h0 : sm_H) (hc : ab_HC) : Prop := ∀ e ∈ hc, ab_okV ls h L0 h0 e.2 (ab_fld h e.1)
def ab_ok (L0 : sm_L) (h0 : sm_H) (A : ab_A) (ls : sm_L) (st : List Value) (h : sm_H) : Prop := ab_okL ls h L0 h0 A.1 ∧ ab_okSt ls h L0 h0 A.2.1 st ∧ ab_okH ls h L0 h0 A.2.2
/-- a field's value fits the shape -/
def ab_fv (e : Nat × Int × Int) (v : Value) : Prop := match e.1 with
  | 0 => ∃ x : Int32, v = .int x ∧ e.2.1 ≤ x.toInt ∧ x.toInt ≤ e.2.2
  | 1 => ∃ x : Int64, v = .long x ∧ e.2.1 ≤ x.toInt ∧ x.toInt ≤ e.2.2
  | _ => v = .ref e.2.1.toNat
/-- an array's contents fit the shape -/
def ab_av (t n : Nat) (lo hi : Int) (ex : List Int) (c : (Nat → Int32) ⊕ (Nat → Int64) ⊕ (Nat → UInt32) ⊕ (Nat → UInt64) ⊕ (Nat → Option Nat)) : Prop := match c with
  | .inl f => t ≠ 1 ∧ ∀ i, i < n → lo ≤ (f i).toInt ∧ (f i).toInt ≤ hi ∧ ∀ z, ex[i]? = some z → (f i).toInt = z
  | .inr (.inl f) => t = 1 ∧ ∀ i, i < n → lo ≤ (f i).toInt ∧ (f i).toInt ≤ hi
  | _ => False
def ab_cell (s : ab_S) (e : Option sm_E) : Prop := match s with
  | .inl (t, n, lo, hi, ex) => ∃ c, e = some (.inl (t, n, c)) ∧ ab_av t n lo hi ex c
  | .inr (ci, fl) => ∃ fs, e = some (.inr (ci, fs)) ∧ fs.length = fl.length ∧ ∀ (i : Nat) (x : Nat × Int × Int) (v : Value), fl[i]? = some x → fs[i]? = some v → ab_fv x v
def ab_Sh (sk : ab_K) (h : sm_H) : Prop := ∀ (k : Nat) (s : ab_S), sk[k]? = some (some s) → ab_cell s h[k]?
/-- what may be written: ranges of cell * 128 + field -/
def ab_in (wr : List (Nat × Nat)) (c : Nat) : Bool := wr.any (fun r => decide (r.1 ≤ c ∧ c < r.2))
def ab_FrE (wr : List (Nat × Nat)) (h' : sm_H) (k : Nat) (e : sm_E) : Prop := match e with
  | .inl x => ab_in wr (k * 128) = false → h'[k]? = some (.inl x)
  | .inr (ci, fs) => ∃ fs', h'[k]? = some (.inr (ci, fs')) ∧ ∀ f, ab_in wr (k * 128 + f) = false → fs'[f]? = fs[f]?
def ab_Fr (wr : List (Nat × Nat)) (h h' : sm_H) : Prop := h'.length = h.length ∧ sm_sl h' = sm_sl h ∧ ∀ (k : Nat) (e : sm_E), h[k]? = some e → ab_FrE wr h' k e
/-! numbers -/
def ab_unk : ab_V := (0, 0, 0, [])
def ab_top : ab_V := (1, -2147483648, 2147483647, [])
def ab_topL : ab_V := (2, -9223372036854775808, 9223372036854775807, [])
def ab_ci (z : Int) : ab_V := (1, z, z, [])
def ab_cl (z : Int) : ab_V := (2, z, z, [])
def ab_rf (n : Nat) : ab_V := (3, (n : Int), 0, [])
def ab_inI (lo hi : Int) : Bool := decide (-2147483648 ≤ lo ∧ hi ≤ 2147483647)
def ab_shift (c : Int) (ts : List ab_T) : List ab_T := ts.map (fun t => (t.1, t.2.1, t.2.2 + c))
def ab_cst (a : ab_V) : Bool := decide (a.2.1 = a.2.2.1)
def ab_add (x y : ab_V) : ab_V := if ab_inI (x.2.1 + y.2.1) (x.2.2.1 + y.2.2.1) then (1, x.2.1 + y.2.1, x.2.2.1 + y.2.2.1, if ab_cst y then ab_shift y.2.1 x.2.2.2 else if ab_cst x then ab_shift x.2.1 y.2.2.2 else []) else ab_top
def ab_sub (x y : ab_V) : ab_V := if ab_inI (x.2.1 - y.2.2.1) (x.2.2.1 - y.2.1) then (1, x.2.1 - y.2.2.1, x.2.2.1 - y.2.1, if ab_cst y then ab_shift (-y.2.1) x.2.2.2 else []) else ab_top
def ab_fold (f : Int32 → Int32 → Int32) (x y : ab_V) : ab_V := if ab_cst x && ab_cst y then ab_ci (f (Int32.ofInt x.2.1) (Int32.ofInt y.2.1)).toInt else ab_top
def ab_and (x y : ab_V) : ab_V := if ab_cst x && ab_cst y then ab_ci (Int32.ofInt x.2.1 &&& Int32.ofInt y.2.1).toInt else if ab_cst y && decide (0 ≤ y.2.1) then (1, 0, y.2.1, []) else if ab_cst x && decide (0 ≤ x.2.1) then (1, 0, x.2.1, []) else ab_top
def ab_foldL (f : Int64 → Int64 → Int64) (x y : ab_V) : ab_V := if ab_cst x && ab_cst y then ab_cl (f (Int64.ofInt x.2.1) (Int64.ofInt y.2.1)).toInt else ab_topL
def ab_foldS (f : Int64 → Int32 → Int64) (x y : ab_V) : ab_V := if ab_cst x && ab_cst y then ab_cl (f (Int64.ofInt x.2.1) (Int32.ofInt y.2.1)).toInt else ab_topL
def ab_lcmp (x y : ab_V) : ab_V := if ab_cst x && ab_cst y then ab_ci (lg_cmp (Int64.ofInt x.2.1) (Int64.ofInt y.2.1)).toInt else (1, -1, 1, [])
def ab_mm (k : Nat) (x y : ab_V) : ab_V := if k = 0 then (1, max x.2.1 y.2.1, max x.2.2.1 y.2.2.1, []) else (1, min x.2.1 y.2.1, min x.2.2.1 y.2.2.1, [])
def ab_chr (a : ab_V) : ab_V := if decide (0 ≤ a.2.1 ∧ a.2.2.1 ≤ 65535) then a else (1, 0, 65535, [])
/-! states -/
def ab_keep (p : ab_T → Bool) (a : ab_V) : ab_V := (a.1, a.2.1, a.2.2.1, a.2.2.2.filter p)
def ab_keepH (p : ab_T → Bool) (hc : ab_HC) : ab_HC := hc.map (fun e => (e.1, ab_keep p e.2))
/-- no tag of this local; no tag of this field; no tag of any field -/
def ab_nl (k : Nat) (t : ab_T) : Bool := !(t.1 == 0 && t.2.1 == k)
def ab_nf (c : Nat) (t : ab_T) : Bool := !(t.1 == 1 && t.2.1 == c)
def ab_n1 (t : ab_T) : Bool := !(t.1 == 1)
def ab_n0 (t : ab_T) : Bool := !(t.1 == 0)
def ab_nw (wr : List (Nat × Nat)) (t : ab_T) : Bool := !(t.1 == 1 && ab_in wr t.2.1)
abbrev ab_O : Type := Option (List (Nat × ab_A))
def ab_go (pc : Nat) (A : ab_A) : ab_O := some [(pc, A)]
def ab_push (pc : Nat) (v : ab_V) (A : ab_A) : ab_O := some [(pc, (A.1, v :: A.2.1, A.2.2))]
/-- a store breaks a long that ends there -/
def ab_break (al : List ab_V) (k : Nat) : List ab_V := match k with
  | 0 => al
  | j + 1 => match al[j]? with
    | some v => if v.1 = 2 then al.set j ab_unk else al
    | none => al
def ab_setl (k : Nat) (v : ab_V) (al : List ab_V) : List ab_V := (ab_break (al.map (ab_keep (ab_nl k))) k).set k (ab_keep (ab_nl k) v)
def ab_setA (k : Nat) (v : ab_V) (A : ab_A) : ab_A := (ab_setl k v A.1, A.2.1.map (ab_keep (ab_nl k)), ab_keepH (ab_nl k) A.2.2)
def ab_nl2 (k : Nat) (t : ab_T) : Bool := !(t.1 == 0 && (t.2.1 == k || t.2.1 == k + 1))
def ab_setA2 (k : Nat) (v : ab_V) (A : ab_A) : ab_A := (((ab_break (A.1.map (ab_keep (ab_nl2 k))) k).set k v).set (k + 1) ab_unk, A.2.1.map (ab_keep (ab_nl2 k)), ab_keepH (ab_nl2 k) A.2.2)
def ab_load (kd k len pc : Nat) (A : ab_A) : ab_O := match A.1[k]? with
  | some v => if v.1 = kd then ab_push (pc + len) (if kd = 1 then (1, v.2.1, v.2.2.1, (0, k, 0) :: v.2.2.2) else v) A else none
  | none => none
def ab_store (kd k len pc : Nat) (A : ab_A) : ab_O := match A.2.1 with
  | v :: r => if v.1 = kd ∧ k < A.1.length then ab_go (pc + len) (ab_setA k v (A.1, r, A.2.2)) else none
  | _ => none
def ab_storeL (k len pc : Nat) (A : ab_A) : ab_O := match A.2.1 with
  | v :: r => if v.1 = 2 ∧ k + 1 < A.1.length then ab_go (pc + len) (ab_setA2 k (2, v.2.1, v.2.2.1, []) (A.1, r, A.2.2)) else none
  | _ => none
def ab_iinc (k : Nat) (n : Int) (pc : Nat) (A : ab_A) : ab_O := match A.1[k]? with
  | some v => if v.1 = 1 then ab_go (pc + 3) (ab_setA k (ab_add v (ab_ci (Int32.ofInt n).toInt)) A) else none
  | none => none
def ab_bin (g : ab_V → ab_V → ab_V) (pc : Nat) (A : ab_A) : ab_O := match A.2.1 with
  | y :: x :: r => if y.1 = 1 ∧ x.1 = 1 then ab_go (pc + 1) (A.1, g x y :: r, A.2.2) else none
  | _ => none
def ab_binL (g : ab_V → ab_V → ab_V) (pc : Nat) (A : ab_A) : ab_O := match A.2.1 with
  | y :: x :: r => if y.1 = 2 ∧ x.1 = 2 then ab_go (pc + 1) (A.1, g x y :: r, A.2.2) else none
  | _ => none
def ab_binS (g : ab_V → ab_V → ab_V) (pc : Nat) (A : ab_A) : ab_O := match A.2.1 with
  | y :: x :: r => if y.1 = 1 ∧ x.1 = 2 then ab_go (pc + 1) (A.1, g x y :: r, A.2.2) else none
  | _ => none
/-- a number that is not 0 -/
def ab_n0d (y : ab_V) : Bool := decide (0 < y.2.1 ∨ y.2.2.1 < 0)
def ab_div (g : ab_V → ab_V → ab_V) (kd pc : Nat) (A : ab_A) : ab_O := match A.2.1 with
  | y :: x :: r => if y.1 = kd ∧ x.1 = kd ∧ ab_n0d y then ab_go (pc + 1) (A.1, g x y :: r, A.2.2) else none
  | _ => none
def ab_un (kd : Nat) (g : ab_V → ab_V) (pc : Nat) (A : ab_A) : ab_O := match A.2.1 with
  | x :: r => if x.1 = kd then ab_go (pc + 1) (A.1, g x :: r, A.2.2) else none
  | _ => none
/-! branches -/
def ab_mod (j : Nat) (f : ab_V → ab_V) (l : List ab_V) : List ab_V := match l[j]? with
  | some a => l.set j (f a)
  | none => l
def ab_meet (lo hi : Int) (a : ab_V) : ab_V := if a.1 = 1 then (1, max a.2.1 lo, min a.2.2.1 hi, a.2.2.2) else a
def ab_ref1 (lo hi : Int) (A : ab_A) (t : ab_T) : ab_A :=
  if t.1 = 0 then (ab_mod t.2.1 (ab_meet (lo - t.2.2) (hi - t.2.2)) A.1, A.2.1, A.2.2)
  else if t.1 = 1 then (A.1, A.2.1, A.2.2.map (fun e => if e.1 = t.2.1 then (e.1, ab_meet (lo - t.2.2) (hi - t.2.2) e.2) else e)) else A
def ab_refs (ts : List ab_T) (lo hi : Int) (A : ab_A) : ab_A := ts.foldl (ab_ref1 lo hi) A
def ab_cutR (c : ClassFile.Cond) (xl xh yl yh : Int) : Int × Int × Int × Int := match c with
  | .eq => (max xl yl, min xh yh, max xl yl, min xh yh)
  | .ne => (if yl = yh ∧ xl = yl then xl + 1 else xl, if yl = yh ∧ xh = yl then xh - 1 else xh, if xl = xh ∧ yl = xl then yl + 1 else yl, if xl = xh ∧ yh = xl then yh - 1 else yh)
  | .lt => (xl, min xh (yh - 1), max yl (xl + 1), yh)
  | .ge => (max xl yl, xh, yl, min yh xh)
  | .gt => (max xl (yl + 1), xh, yl, min yh (xh - 1))
  | .le => (xl, min xh yh, max yl xl, yh)
def ab_neg (c : ClassFile.Cond) : ClassFile.Cond := match c with
  | .eq => .ne
  | .ne => .eq
  | .lt => .ge
  | .ge => .lt
  | .gt => .le
  | .le => .gt
def ab_br (c : ClassFile.Cond) (x y : ab_V) (pc : Nat) (A : ab_A) : List (Nat × ab_A) := match ab_cutR c x.2.1 x.2.2.1 y.2.1 y.2.2.1 with
  | (xl, xh, yl, yh) => if xl ≤ xh ∧ yl ≤ yh then [(pc, ab_refs y.2.2.2 yl yh (ab_refs x.2.2.2 xl xh A))] else []
def ab_if (c : ClassFile.Cond) (x y : ab_V) (pc : Nat) (off : Int) (A : ab_A) : ab_O := if x.1 = 1 ∧ y.1 = 1 then some (ab_br c x y (sm_jmp pc off) A ++ ab_br (ab_neg c) x y (pc + 3) A) else none
/-- the places of a switch, from the value i on -/
def ab_sw (x : ab_V) (pc : Nat) (A : ab_A) (i : Int) : List Int → List (Nat × ab_A)
  | [] => []
  | o :: r => (if x.2.1 ≤ i ∧ i ≤ x.2.2.1 then [(sm_jmp pc o, ab_refs x.2.2.2 i i A)] else []) ++ ab_sw x pc A (i + 1) r
def ab_switch (x : ab_V) (pc : Nat) (d lo hi : Int) (offs : List Int) (A : ab_A) : ab_O :=
  if x.1 = 1 ∧ (offs.length : Int) = hi - lo + 1 then some ((if lo ≤ x.2.1 ∧ x.2.2.1 ≤ hi then [] else [(sm_jmp pc d, A)]) ++ ab_sw x pc A lo offs) else none
/-! cells -/
def ab_ixok (i : ab_V) (n : Nat) : Bool := decide (i.1 = 1 ∧ 0 ≤ i.2.1 ∧ i.2.2.1 < (n : Int))
def ab_hget : ab_HC → Nat → Option ab_V
  | [], _ => none
  | e :: r, c => if e.1 = c then some e.2 else ab_hget r c
def ab_ald (t : Nat) (sk : ab_K) (pc : Nat) (A : ab_A) : ab_O := match A.2.1 with
  | i :: a :: r => if a.1 = 3 then (match sk[a.2.1.toNat]? with
    | some (some (.inl (t', n, lo, hi, ex))) => if t' = t ∧ t ≠ 1 ∧ ab_ixok i n = true ∧ (sm_C ≤ a.2.1.toNat ∨ t = 0 ∨ t = 4) then
        ab_go (pc + 1) (A.1, (if ab_cst i then (match ex[i.2.1.toNat]? with
          | some z => ab_ci z
          | none => (1, lo, hi, [])) else (1, lo, hi, [])) :: r, A.2.2) else none
    | _ => none) else none
  | _ => none
def ab_aldL (sk : ab_K) (pc : Nat) (A : ab_A) : ab_O := match A.2.1 with
  | i :: a :: r => if a.1 = 3 then (match sk[a.2.1.toNat]? with
    | some (some (.inl (t', n, lo, hi, _))) => if t' = 1 ∧ ab_ixok i n = true ∧ sm_C ≤ a.2.1.toNat then ab_go (pc + 1) (A.1, (2, lo, hi, []) :: r, A.2.2) else none
    | _ => none) else none
  | _ => none
/-- what is stored of a number in an array of class t -/
def ab_gv (t : Nat) (v : ab_V) : ab_V := if t = 0 then v else if t = 2 then ab_chr v else (1, 0, 1, [])
def ab_ast (t : Nat) (sk : ab_K) (wr : List (Nat × Nat)) (pc : Nat) (A : ab_A) : ab_O := match A.2.1 with
  | v :: i :: a :: r => if a.1 = 3 ∧ v.1 = 1 then (match sk[a.2.1.toNat]? with
    | some (some (.inl (t', n, lo, hi, ex))) => if t' = t ∧ t ≠ 1 ∧ ab_ixok i n = true ∧ sm_C ≤ a.2.1.toNat ∧ ex = [] ∧ lo ≤ (ab_gv t v).2.1 ∧ (ab_gv t v).2.2.1 ≤ hi ∧ ab_in wr (a.2.1.toNat * 128) = true then ab_go (pc + 1) (A.1, r, A.2.2) else none
    | _ => none) else none
  | _ => none
def ab_astL (sk : ab_K) (wr : List (Nat × Nat)) (pc : Nat) (A : ab_A) : ab_O := match A.2.1 with
  | v :: i :: a :: r => if a.1 = 3 ∧ v.1 = 2 then (match sk[a.2.1.toNat]? with
    | some (some (.inl (t', n, lo, hi, _))) => if t' = 1 ∧ ab_ixok i n = true ∧ sm_C ≤ a.2.1.toNat ∧ lo ≤ v.2.1 ∧ v.2.2.1 ≤ hi ∧ ab_in wr (a.2.1.toNat * 128) = true then ab_go (pc + 1) (A.1, r, A.2.2) else none
    | _ => none) else none
  | _ => none
def ab_alen (sk : ab_K) (pc : Nat) (A : ab_A) : ab_O := match A.2.1 with
  | a :: r => if a.1 = 3 then (match sk[a.2.1.toNat]? with
    | some (some (.inl (t, n, _, _, _))) => if (sm_ty t).isSome ∧ n ≤ 2147483647 then ab_go (pc + 1) (A.1, ab_ci n :: r, A.2.2) else none
    | _ => none) else none
  | _ => none
def ab_getf (sk : ab_K) (rs : List Nat) (pc : Nat) (A : ab_A) : ab_O := match A.2.1, rs with
  | a :: r, k :: z :: cs => if a.1 = 3 then (match sk[a.2.1.toNat]? with
    | some (some (.inr (ci, fl))) => if ci ∈ cs ∧ k < 128 ∧ ((z = 0 ∧ sm_C ≤ a.2.1.toNat) ∨ (z ≠ 0 ∧ a.2.1.toNat < sm_C)) then (match fl[k]? with
      | some (t, lo, hi) =>
        if t = 0 then (match ab_hget A.2.2 (a.2.1.toNat * 128 + k) with
          | some v => if v.1 = 1 then ab_go (pc + 3) (A.1, (1, v.2.1, v.2.2.1, (1, a.2.1.toNat * 128 + k, 0) :: v.2.2.2) :: r, A.2.2) else none
          | none => ab_go (pc + 3) (A.1, (1, lo, hi, [(1, a.2.1.toNat * 128 + k, 0)]) :: r, (a.2.1.toNat * 128 + k, (1, lo, hi, [])) :: A.2.2))
        else if t = 1 then (match ab_hget A.2.2 (a.2.1.toNat * 128 + k) with
          | some v => if v.1 = 2 then ab_go (pc + 3) (A.1, v :: r, A.2.2) else none
          | none => ab_go (pc + 3) (A.1, (2, lo, hi, []) :: r, A.2.2))
        else ab_go (pc + 3) (A.1, (3, lo, 0, []) :: r, A.2.2)
      | none => none) else none
    | _ => none) else none
  | _, _ => none
/-- a number fits a field of a kind of the machine -/
def ab_fits (t : Nat) (v : ab_V) : Bool := decide ((t = 0 ∧ v.1 = 1) ∨ (t = 1 ∧ v.1 = 2) ∨ (t = 3 ∧ v.1 = 1 ∧ 0 ≤ v.2.1 ∧ v.2.2.1 ≤ 1) ∨ (t = 4 ∧ v.1 = 1 ∧ 0 ≤ v.2.1 ∧ v.2.2.1 ≤ 65535))
def ab_putf (sk : ab_K) (wr : List (Nat × Nat)) (rs : List Nat) (pc : Nat) (A : ab_A) : ab_O := match A.2.1, rs with
  | v :: a :: r, k :: t :: _ :: cs => if a.1 = 3 then (match sk[a.2.1.toNat]? with
    | some (some (.inr (ci, fl))) => if ci ∈ cs ∧ k < 128 ∧ sm_C ≤ a.2.1.toNat ∧ ab_in wr (a.2.1.toNat * 128 + k) = true ∧ ab_fits t v = true then (match fl[k]? with
      | some (t', lo, hi) => if ((t' = 0 ∧ v.1 = 1) ∨ (t' = 1 ∧ v.1 = 2)) ∧ lo ≤ v.2.1 ∧ v.2.2.1 ≤ hi then
          ab_go (pc + 3) (A.1.map (ab_keep (ab_nf (a.2.1.toNat * 128 + k))), r.map (ab_keep (ab_nf (a.2.1.toNat * 128 + k))), (a.2.1.toNat * 128 + k, ab_keep (ab_nf (a.2.1.toNat * 128 + k)) (ab_keep ab_n0 v)) :: ab_keepH (ab_nf (a.2.1.toNat * 128 + k)) (A.2.2.filter (fun e => !(e.1 == a.2.1.toNat * 128 + k)))) else none
      | none => none) else none
    | _ => none) else none
  | _, _ => none
/-! one instruction -/
def ab_c1 (a : ab_V) : Bool := a.1 == 1 || a.1 == 3
def ab_cat (a : ab_V) : Nat := if a.1 = 2 then 2 else 1
def ab_cats (r : List ab_V) : Bool := decide ((r.map ab_cat).sum ≤ 8) && r.all (fun a => !(a.1 == 0))
def ab_step (sk : ab_K) (wr : List (Nat × Nat)) (q : sm_I) (pc : Nat) (A : ab_A) : ab_O := match q with
  | (i, _, rs) => match i with
    | .iconst n => ab_push (pc + 1) (ab_ci (Int32.ofInt n).toInt) A
    | .bipush n => ab_push (pc + 2) (ab_ci (Int8.ofInt n).toInt32.toInt) A
    | .sipush n => ab_push (pc + 3) (ab_ci (Int16.ofInt n).toInt32.toInt) A
    | .lconst n => ab_push (pc + 1) (ab_cl (Int64.ofNat (n : Nat)).toInt) A
    | .ldc _ => match rs with
      | [0, n] => ab_push (pc + 2) (ab_ci (Int32.ofNat n).toInt) A
      | [1, n] => ab_push (pc + 2) (ab_rf n) A
      | _ => none
    | .ldc_w _ => match rs with
      | [0, n] => ab_push (pc + 3) (ab_ci (Int32.ofNat n).toInt) A
      | _ => none
    | .ldc2_w _ => match rs with
      | [n] => ab_push (pc + 3) (ab_cl (Int64.ofNat n).toInt) A
      | _ => none
    | .iload_n k => ab_load 1 k 1 pc A
    | .iload k => ab_load 1 k 2 pc A
    | .lload_n k => ab_load 2 k 1 pc A
    | .lload k => ab_load 2 k 2 pc A
    | .aload_n k => ab_load 3 k 1 pc A
    | .aload k => ab_load 3 k 2 pc A
    | .istore_n k => ab_store 1 k 1 pc A
    | .istore k => ab_store 1 k 2 pc A
    | .astore_n k => ab_store 3 k 1 pc A
    | .astore k => ab_store 3 k 2 pc A
    | .lstore_n k => ab_storeL k 1 pc A
    | .lstore k => ab_storeL k 2 pc A
    | .iinc k n => ab_iinc k n pc A
    | .iadd => ab_bin ab_add pc A
    | .isub => ab_bin ab_sub pc A
    | .iand => ab_bin ab_and pc A
    | .imul => ab_bin (ab_fold (· * ·)) pc A
    | .ior => ab_bin (ab_fold (· ||| ·)) pc A
    | .ixor => ab_bin (ab_fold (· ^^^ ·)) pc A
    | .ishl => ab_bin (ab_fold (fun x y => x <<< (y &&& 31))) pc A
    | .ishr => ab_bin (ab_fold (fun x y => x >>> (y &&& 31))) pc A
    | .iushr => ab_bin (ab_fold (fun x y => (x.toUInt32 >>> (y.toUInt32 &&& Int32.toUInt32 31)).toInt32)) pc A
    | .idiv => ab_div (ab_fold (· / ·)) 1 pc A
    | .irem => ab_div (ab_fold (fun x y => x - x / y * y)) 1 pc A
    | .ineg => ab_un 1 (fun _ => ab_top) pc A
    | .ladd => ab_binL (ab_foldL (· + ·)) pc A
    | .lsub => ab_binL (ab_foldL (· - ·)) pc A
    | .lmul => ab_binL (ab_foldL (· * ·)) pc A
    | .land => ab_binL (ab_foldL (· &&& ·)) pc A
    | .lor => ab_binL (ab_foldL (· ||| ·)) pc A
    | .lxor => ab_binL (ab_foldL (· ^^^ ·)) pc A
    | .lrem => ab_div (ab_foldL (fun x y => x - x / y * y)) 2 pc A
    | .ldiv => ab_div (ab_foldL (· / ·)) 2 pc A
    | .lushr => ab_binS (ab_foldS (fun x y => (x.toUInt64 >>> (y.toInt64.toUInt64 &&& Int64.toUInt64 63)).toInt64)) pc A
    | .lshl => ab_binS (ab_foldS (fun x y => x <<< (y.toInt64 &&& 63))) pc A
    | .lshr => ab_binS (ab_foldS (fun x y => x >>> (y.toInt64 &&& 63))) pc A
    | .lcmp => ab_binL ab_lcmp pc A
    | .i2l => ab_un 1 (fun x => (2, x.2.1, x.2.2.1, [])) pc A
    | .l2i => ab_un 2 (fun x => if ab_inI x.2.1 x.2.2.1 then (1, x.2.1, x.2.2.1, []) else ab_top) pc A
    | .i2c => ab_un 1 ab_chr pc A
    | .i2b => ab_un 1 (fun _ => ab_top) pc A
    | .dup => match A.2.1 with
      | v :: r => if ab_c1 v then ab_go (pc + 1) (A.1, v :: v :: r, A.2.2) else none
      | _ => none
    | .pop => match A.2.1 with
      | v :: r => if ab_c1 v then ab_go (pc + 1) (A.1, r, A.2.2) else none
      | _ => none
    | .dup_x1 => match A.2.1 with
      | v :: w :: r => if ab_c1 v ∧ ab_c1 w then ab_go (pc + 1) (A.1, v :: w :: v :: r, A.2.2) else none
      | _ => none
    | .dup_x2 => match A.2.1 with
      | v :: w :: u :: r => if ab_c1 v ∧ ab_c1 w ∧ ab_c1 u then ab_go (pc + 1) (A.1, v :: w :: u :: v :: r, A.2.2) else none
      | _ => none
    | .dup2 => match A.2.1 with
      | v :: r => if v.1 = 2 then ab_go (pc + 1) (A.1, v :: v :: r, A.2.2) else (match r with
        | w :: r2 => if ab_c1 v ∧ ab_c1 w then ab_go (pc + 1) (A.1, v :: w :: v :: w :: r2, A.2.2) else none
        | _ => none)
      | _ => none
    | .pop2 => match A.2.1 with
      | v :: r => if v.1 = 2 then ab_go (pc + 1) (A.1, r, A.2.2) else (match r with
        | w :: r2 => if ab_c1 v ∧ ab_c1 w then ab_go (pc + 1) (A.1, r2, A.2.2) else none
        | _ => none)
      | _ => none
    | .if_icmp c off => match A.2.1 with
      | y :: x :: r => ab_if c x y pc off (A.1, r, A.2.2)
      | _ => none
    | .ifCond c off => match A.2.1 with
      | x :: r => ab_if c x (ab_ci 0) pc off (A.1, r, A.2.2)
      | _ => none
    | .goto off => ab_go (sm_jmp pc off) A
    | .tableswitch d lo hi offs => match A.2.1 with
      | x :: r => ab_switch x pc d lo hi offs.toList (A.1, r, A.2.2)
      | _ => none
    | .arraylength => ab_alen sk pc A
    | .iaload => ab_ald 0 sk pc A
    | .caload => ab_ald 2 sk pc A
    | .baload => match ab_ald 3 sk pc A with
      | some r => some r
      | none => ab_ald 4 sk pc A
    | .iastore => ab_ast 0 sk wr pc A
    | .bastore => ab_ast 3 sk wr pc A
    | .castore => ab_ast 2 sk wr pc A
    | .laload => ab_aldL sk pc A
    | .lastore => ab_astL sk wr pc A
    | .getstatic _ => match rs with
      | [n] => ab_push (pc + 3) (ab_ci (Int32.ofNat n).toInt) A
      | _ => none
    | .getfield _ => ab_getf sk rs pc A
    | .putfield _ => ab_putf sk wr rs pc A
    | .invokestatic _ => match rs with
      | [_, k] => match A.2.1 with
        | y :: x :: r => if y.1 = 1 ∧ x.1 = 1 ∧ ab_cats r = true then ab_go (pc + 3) (A.1, ab_mm k x y :: r, A.2.2) else none
        | _ => none
      | [_, _, _, _] => match A.2.1 with
        | n :: i :: r => if n.1 = 1 ∧ i.1 = 1 ∧ 0 ≤ i.2.1 ∧ i.2.2.1 < n.2.1 ∧ ab_cats r = true then ab_go (pc + 3) (A.1, r, A.2.2) else none
        | _ => none
      | _ => none
    | _ => none
/-! A STEP of the machine with bounds is a step -/
section ABO
variable {L0 ls ls' : sm_L} {h0 h h' : sm_H} {sk : ab_K} {wr : List (Nat × Nat)}
theorem ab_kd1 {a : ab_V} {v : Option Value} (hv : ab_okV ls h L0 h0 a v) (hk : a.1 = 1) : ∃ x : Int32, v = some (.int x) ∧ a.2.1 ≤ x.toInt ∧ x.toInt ≤ a.2.2.1 ∧ ∀ t ∈ a.2.2.2, ab_tg ls h L0 h0 t x.toInt := by
  unfold ab_okV at hv
  rw [hk] at hv
  exact hv
theorem ab_kd2 {a : ab_V} {v : Option Value} (hv : ab_okV ls h L0 h0 a v) (hk : a.1 = 2) : ∃ x : Int64, v = some (.long x) ∧ a.2.1 ≤ x.toInt ∧ x.toInt ≤ a.2.2.1 := by
  unfold ab_okV at hv
  rw [hk] at hv
  exact hv
theorem ab_kd3 {a : ab_V} {v : Option Value} (hv : ab_okV ls h L0 h0 a v) (hk : a.1 = 3) : v = some (.ref a.2.1.toNat) := by
  unfold ab_okV at hv
  rw [hk] at hv
  exact hv
theorem ab_mk1 {lo hi : Int} {ts : List ab_T} {x : Int32} (h1 : lo ≤ x.toInt) (h2 : x.toInt ≤ hi) (h3 : ∀ t ∈ ts, ab_tg ls h L0 h0 t x.toInt) : ab_okV ls h L0 h0 (1, lo, hi, ts) (some (.int x)) := ⟨x, rfl, h1, h2, h3⟩
theorem ab_mk2 {lo hi : Int} {ts : List ab_T} {x : Int64} (h1 : lo ≤ x.toInt) (h2 : x.toInt ≤ hi) : ab_okV ls h L0 h0 (2, lo, hi, ts) (some (.long x)) := ⟨x, rfl, h1, h2⟩
theorem ab_mkc (x : Int32) : ab_okV ls h L0 h0 (ab_ci x.toInt) (some (.int x)) := ⟨x, rfl, Int.le_refl _, Int.le_refl _, fun _ ht => absurd ht List.not_mem_nil⟩
theorem ab_mkcl (x : Int64) : ab_okV ls h L0 h0 (ab_cl x.toInt) (some (.long x)) := ⟨x, rfl, Int.le_refl _, Int.le_refl _⟩
theorem ab_mkt (x : Int32) : ab_okV ls h L0 h0 ab_top (some (.int x)) := ⟨x, rfl, x.le_toInt, Int.le_of_lt_add_one x.toInt_lt, fun _ ht => absurd ht List.not_mem_nil⟩
theorem ab_mktL (x : Int64) : ab_okV ls h L0 h0 ab_topL (some (.long x)) := ⟨x, rfl, x.le_toInt, Int.le_of_lt_add_one x.toInt_lt⟩
theorem ab_mk3 (n : Nat) : ab_okV ls h L0 h0 (ab_rf n) (some (.ref n)) := rfl
theorem ab_keep_ok {p : ab_T → Bool} {a : ab_V} {v : Option Value} (hv : ab_okV ls h L0 h0 a v) (hp : ∀ t z, p t = true → ab_tg ls h L0 h0 t z → ab_tg ls' h' L0 h0 t z) : ab_okV ls' h' L0 h0 (ab_keep p a) v := by
  obtain ⟨k, lo, hi, ts⟩ := a
  rcases k with _ | _ | _ | _ | k
  · trivial
  · obtain ⟨x, e, h1, h2, h3⟩ := hv
    exact ⟨x, e, h1, h2, fun t ht => hp t _ (List.mem_filter.mp ht).2 (h3 t (List.mem_filter.mp ht).1)⟩
  · exact hv
  · exact hv
  · exact (show False from hv).elim
theorem ab_keepSt {p : ab_T → Bool} (hp : ∀ t z, p t = true → ab_tg ls h L0 h0 t z → ab_tg ls' h' L0 h0 t z) : ∀ (as : List ab_V) (st : List Value), ab_okSt ls h L0 h0 as st → ab_okSt ls' h' L0 h0 (as.map (ab_keep p)) st := by
  intro as
  induction as with
  | nil => intro st hs; cases st with
    | nil => trivial
    | cons v s => exact (show False from hs).elim
  | cons a as ih => intro st hs; cases st with
    | nil => exact (show False from hs).elim
    | cons v s => exact ⟨ab_keep_ok hs.1 hp, ih s hs.2⟩
theorem ab_keepHc {p : ab_T → Bool} {hc : ab_HC} (hp : ∀ t z, p t = true → ab_tg ls h L0 h0 t z → ab_tg ls' h' L0 h0 t z) (hh : ab_okH ls h L0 h0 hc) (hf : ∀ e ∈ hc, ab_fld h' e.1 = ab_fld h e.1) : ab_okH ls' h' L0 h0 (ab_keepH p hc) := by
  intro e he
  obtain ⟨e', he', rfl⟩ := List.mem_map.mp he
  show ab_okV ls' h' L0 h0 (ab_keep p e'.2) (ab_fld h' e'.1)
  rw [hf e' he']
  exact ab_keep_ok (hh e' he') hp
theorem ab_keepL {p : ab_T → Bool} {al : List ab_V} (hp : ∀ t z, p t = true → ab_tg ls h L0 h0 t z → ab_tg ls h' L0 h0 t z) (hl : ab_okL ls h L0 h0 al) : ab_okL ls h' L0 h0 (al.map (ab_keep p)) := by
  refine ⟨by rw [List.length_map]; exact hl.1, fun j a hj => ?_⟩
  rw [List.getElem?_map] at hj
  cases ha : al[j]? with
  | none => rw [ha] at hj; cases hj
  | some b =>
    rw [ha] at hj
    cases hj
    exact ab_keep_ok (hl.2 j b ha) hp
/-! locals that are written -/
theorem ab_put1_at {k : Nat} {w : Value} (hp : sm_put1 ls k w = some ls') : sm_lget ls' k = some w := by
  obtain ⟨hl, rfl⟩ := sm_put1_len hp
  unfold sm_lget
  rw [List.getElem?_set_self (by rw [sm_kill_len]; exact hl)]
theorem ab_kill_ne {k j : Nat} : sm_lget (sm_kill ls k) j = sm_lget ls j ∨ (j + 1 = k ∧ ∃ v, sm_lget ls j = some v ∧ v.category = 2) := by
  unfold sm_kill
  cases k with
  | zero => exact Or.inl rfl
  | succ i =>
    dsimp only
    split
    · next v hv =>
      split
      · next hc =>
        by_cases e : i = j
        · subst e
          exact Or.inr ⟨rfl, v, by unfold sm_lget; rw [hv], hc⟩
        · refine Or.inl ?_
          unfold sm_lget
          rw [List.getElem?_set_ne e]
      · exact Or.inl rfl
    · exact Or.inl rfl
theorem ab_put1_ne {k j : Nat} {w : Value} (hp : sm_put1 ls k w = some ls') (hj : j ≠ k) : sm_lget ls' j = sm_lget ls j ∨ (j + 1 = k ∧ ∃ v, sm_lget ls j = some v ∧ v.category = 2) := by
  obtain ⟨hl, rfl⟩ := sm_put1_len hp
  have e : sm_lget ((sm_kill ls k).set k (some w)) j = sm_lget (sm_kill ls k) j := by
    unfold sm_lget
    rw [List.getElem?_set_ne (Ne.symm hj)]
  rw [e]
  exact ab_kill_ne
theorem ab_put2_at {k : Nat} {w : Value} (hp : sm_put2 ls k w = some ls') : sm_lget ls' k = some w := by
  obtain ⟨hl, rfl⟩ := sm_put2_len hp
  unfold sm_lget
  rw [List.getElem?_set_ne (by omega), List.getElem?_set_self (by rw [sm_kill_len]; omega)]
theorem ab_put2_ne {k j : Nat} {w : Value} (hp : sm_put2 ls k w = some ls') (hj : j ≠ k) (hj1 : j ≠ k + 1) : sm_lget ls' j = sm_lget ls j ∨ (j + 1 = k ∧ ∃ v, sm_lget ls j = some v ∧ v.category = 2) := by
  obtain ⟨hl, rfl⟩ := sm_put2_len hp
  have e : sm_lget (((sm_kill ls k).set k (some w)).set (k + 1) none) j = sm_lget (sm_kill ls k) j := by
    unfold sm_lget
    rw [List.getElem?_set_ne (Ne.symm hj1), List.getElem?_set_ne (Ne.symm hj)]
  rw [e]
  exact ab_kill_ne
theorem ab_tg_loc {t : ab_T} {z : Int} (ht : ab_tg ls h L0 h0 t z) (hk : t.1 = 0 → ∀ y : Int32, sm_lget ls t.2.1 = some (.int y) → sm_lget ls' t.2.1 = some (.int y)) : ab_tg ls' h L0 h0 t z :=
  ⟨fun e => by
    obtain ⟨y, h1, h2⟩ := ht.1 e
    exact ⟨y, hk e y h1, h2⟩, ht.2⟩
theorem ab_int_cat {y : Int32} {j k : Nat} (h1 : sm_lget ls j = some (.int y)) (h2 : sm_lget ls' j = sm_lget ls j ∨ (j + 1 = k ∧ ∃ v, sm_lget ls j = some v ∧ v.category = 2)) : sm_lget ls' j = some (.int y) := by
  rcases h2 with h2 | ⟨-, v, h3, h4⟩
  · rw [h2]; exact h1
  · rw [h1] at h3
    cases h3
    cases h4
theorem ab_brk {al : List ab_V} {k j : Nat} {a : ab_V} (hj : (ab_break al k)[j]? = some a) : a = ab_unk ∨ (al[j]? = some a ∧ ¬ (j + 1 = k ∧ a.1 = 2)) := by
  unfold ab_break at hj
  cases k with
  | zero => exact Or.inr ⟨hj, fun z => by omega⟩
  | succ i =>
    dsimp only at hj
    split at hj
    · next v hv =>
      split at hj
      · next hc =>
        by_cases e : i = j
        · subst e
          rw [List.getElem?_set_self (List.getElem?_eq_some_iff.mp hv).1] at hj
          cases hj
          exact Or.inl rfl
        · rw [List.getElem?_set_ne e] at hj
          exact Or.inr ⟨hj, fun z => by omega⟩
      · next hc =>
        refine Or.inr ⟨hj, fun z => ?_⟩
        have e : j = i := by omega
        subst e
        rw [hv] at hj
        cases hj
        exact hc z.2
    · next hv => exact Or.inr ⟨hj, fun z => by
        have e : j = i := by omega
        subst e
        rw [hv] at hj
        cases hj⟩
theorem ab_brk_len {al : List ab_V} {k : Nat} : (ab_break al k).length = al.length := by
  unfold ab_break
  cases k with
  | zero => rfl
  | succ i =>
    dsimp only
    split
    · split
      · rw [List.length_set]
      · rfl
    · rfl
/-- a value whose local is broken was a long -/
theorem ab_brk_ok {a : ab_V} {j k : Nat} (hv : ab_okV ls h L0 h0 a (sm_lget ls j)) (hb : ¬ (j + 1 = k ∧ a.1 = 2)) (h2 : sm_lget ls' j = sm_lget ls j ∨ (j + 1 = k ∧ ∃ v, sm_lget ls j = some v ∧ v.category = 2)) : ab_okV ls h L0 h0 a (sm_lget ls' j) := by
  rcases h2 with h2 | ⟨e, v, h3, h4⟩
  · rw [h2]; exact hv
  · obtain ⟨kd, lo, hi, ts⟩ := a
    rcases kd with _ | _ | _ | _ | kd
    · trivial
    · obtain ⟨x, e1, -⟩ := hv
      rw [h3] at e1
      cases e1
      cases h4
    · exact absurd ⟨e, rfl⟩ hb
    · have e1 : sm_lget ls j = some (.ref lo.toNat) := hv
      rw [h3] at e1
      cases e1
      cases h4
    · exact (show False from hv).elim
theorem ab_set1 {A : ab_A} {k : Nat} {a : ab_V} {w : Value} {st : List Value} (hA : ab_ok L0 h0 A ls st h) (ha : ab_okV ls h L0 h0 a (some w)) (hp : sm_put1 ls k w = some ls') : ab_ok L0 h0 (ab_setA k a A) ls' st h := by
  have hmv : ∀ t z, ab_nl k t = true → ab_tg ls h L0 h0 t z → ab_tg ls' h L0 h0 t z := fun t z hn ht => ab_tg_loc ht fun e y hy => by
    have hne : t.2.1 ≠ k := fun e2 => by
      unfold ab_nl at hn
      rw [e, e2] at hn
      simp at hn
    exact ab_int_cat hy (ab_put1_ne hp hne)
  refine ⟨⟨?_, fun j b hj => ?_⟩, ab_keepSt hmv _ _ hA.2.1, ab_keepHc hmv hA.2.2 (fun _ _ => rfl)⟩
  · obtain ⟨hl, rfl⟩ := sm_put1_len hp
    show (ab_setl k a A.1).length = _
    unfold ab_setl
    rw [List.length_set, ab_brk_len, List.length_map, List.length_set, sm_kill_len]
    exact hA.1.1
  · have hj' : ((ab_break (A.1.map (ab_keep (ab_nl k))) k).set k (ab_keep (ab_nl k) a))[j]? = some b := hj
    by_cases e : k = j
    · subst e
      have hlt : k < (ab_break (A.1.map (ab_keep (ab_nl k))) k).length := by
        rw [ab_brk_len, List.length_map, hA.1.1]
        exact (sm_put1_len hp).1
      rw [List.getElem?_set_self hlt] at hj'
      cases hj'
      rw [ab_put1_at hp]
      exact ab_keep_ok ha hmv
    · rw [List.getElem?_set_ne e] at hj'
      rcases ab_brk hj' with rfl | ⟨h1, h2⟩
      · trivial
      · rw [List.getElem?_map] at h1
        cases hb : A.1[j]? with
        | none => rw [hb] at h1; cases h1
        | some c =>
          rw [hb] at h1
          cases h1
          exact ab_keep_ok (ab_brk_ok (hA.1.2 j c hb) h2 (ab_put1_ne hp (Ne.symm e))) hmv
theorem ab_set2 {A : ab_A} {k : Nat} {lo hi : Int} {w : Value} {st : List Value} (hA : ab_ok L0 h0 A ls st h) (ha : ab_okV ls h L0 h0 (2, lo, hi, []) (some w)) (hp : sm_put2 ls k w = some ls') : ab_ok L0 h0 (ab_setA2 k (2, lo, hi, []) A) ls' st h := by
  have hmv : ∀ t z, ab_nl2 k t = true → ab_tg ls h L0 h0 t z → ab_tg ls' h L0 h0 t z := fun t z hn ht => ab_tg_loc ht fun e y hy => by
    have hne : t.2.1 ≠ k ∧ t.2.1 ≠ k + 1 := by
      unfold ab_nl2 at hn
      rw [e] at hn
      simp at hn
      exact hn
    exact ab_int_cat hy (ab_put2_ne hp hne.1 hne.2)
  refine ⟨⟨?_, fun j b hj => ?_⟩, ab_keepSt hmv _ _ hA.2.1, ab_keepHc hmv hA.2.2 (fun _ _ => rfl)⟩
  · obtain ⟨hl, rfl⟩ := sm_put2_len hp
    show (((ab_break (A.1.map (ab_keep (ab_nl2 k))) k).set k (2, lo, hi, [])).set (k + 1) ab_unk).length = _
    rw [List.length_set, List.length_set, ab_brk_len, List.length_map, List.length_set, List.length_set, sm_kill_len]
    exact hA.1.1
  · have hj' : (((ab_break (A.1.map (ab_keep (ab_nl2 k))) k).set k (2, lo, hi, [])).set (k + 1) ab_unk)[j]? = some b := hj
    by_cases e1 : k + 1 = j
    · subst e1
      have := List.mem_of_getElem? hj'
      have hlt : k + 1 < ((ab_break (A.1.map (ab_keep (ab_nl2 k))) k).set k (2, lo, hi, [])).length := by
        rw [List.length_set, ab_brk_len, List.length_map, hA.1.1]
        exact (sm_put2_len hp).1
      rw [List.getElem?_set_self hlt] at hj'
      cases hj'
      trivial
    · rw [List.getElem?_set_ne e1] at hj'
      by_cases e : k = j
      · subst e
        have hlt : k < (ab_break (A.1.map (ab_keep (ab_nl2 k))) k).length := by
          rw [ab_brk_len, List.length_map, hA.1.1]
          have := (sm_put2_len hp).1
          omega
        rw [List.getElem?_set_self hlt] at hj'
        cases hj'
        rw [ab_put2_at hp]
        obtain ⟨x, e2, g1, g2⟩ := ha
        exact ⟨x, e2, g1, g2⟩
      · rw [List.getElem?_set_ne e] at hj'
        rcases ab_brk hj' with rfl | ⟨h1, h2⟩
        · trivial
        · rw [List.getElem?_map] at h1
          cases hb : A.1[j]? with
          | none => rw [hb] at h1; cases h1
          | some c =>
            rw [hb] at h1
            cases h1
            exact ab_keep_ok (ab_brk_ok (hA.1.2 j c hb) h2 (ab_put2_ne hp (Ne.symm e) (Ne.symm e1))) hmv
/-! numbers -/
theorem ab_bm {z : Int} (h1 : -2147483648 ≤ z) (h2 : z ≤ 2147483647) : z.bmod (2 ^ 32) = z := Int.bmod_eq_of_le (by omega) (by omega)
theorem ab_tg_shift {t : ab_T} {z c : Int} (ht : ab_tg ls h L0 h0 t z) : ab_tg ls h L0 h0 (t.1, t.2.1, t.2.2 + c) (z + c) :=
  ⟨fun e => by obtain ⟨y, h1, h2⟩ := ht.1 e; exact ⟨y, h1, by dsimp only; omega⟩, fun e => by obtain ⟨y, h1, h2⟩ := ht.2.1 e; exact ⟨y, h1, by dsimp only; omega⟩,
   fun e => by obtain ⟨y, h1, h2⟩ := ht.2.2.1 e; exact ⟨y, h1, by dsimp only; omega⟩, fun e => by obtain ⟨y, h1, h2⟩ := ht.2.2.2 e; exact ⟨y, h1, by dsimp only; omega⟩⟩
theorem ab_tgs_shift {ts : List ab_T} {z c : Int} (ht : ∀ t ∈ ts, ab_tg ls h L0 h0 t z) : ∀ t ∈ ab_shift c ts, ab_tg ls h L0 h0 t (z + c) := by
  intro t hm
  obtain ⟨t', h1, rfl⟩ := List.mem_map.mp hm
  exact ab_tg_shift (ht t' h1)
theorem ab_add_ok {a b : ab_V} {x y : Int32} (ka : a.1 = 1) (kb : b.1 = 1) (ha : ab_okV ls h L0 h0 a (some (.int x))) (hb : ab_okV ls h L0 h0 b (some (.int y))) : ab_okV ls h L0 h0 (ab_add a b) (some (.int (x + y))) := by
  obtain ⟨x', e1, a1, a2, a3⟩ := ab_kd1 ha ka
  obtain ⟨y', e2, b1, b2, b3⟩ := ab_kd1 hb kb
  cases e1
  cases e2
  unfold ab_add
  split
  · next hc =>
    simp only [ab_inI, decide_eq_true_eq] at hc
    have e : (x + y).toInt = x.toInt + y.toInt := by rw [Int32.toInt_add]; exact ab_bm (by omega) (by omega)
    refine ab_mk1 (by rw [e]; omega) (by rw [e]; omega) ?_
    rw [e]
    split
    · next hy =>
      simp only [ab_cst, decide_eq_true_eq] at hy
      have e3 : y.toInt = b.2.1 := by omega
      rw [e3]
      exact ab_tgs_shift a3
    · split
      · next hx =>
        simp only [ab_cst, decide_eq_true_eq] at hx
        have e3 : x.toInt = a.2.1 := by omega
        rw [e3, Int.add_comm]
        exact ab_tgs_shift b3
      · exact fun _ ht => absurd ht List.not_mem_nil
  · exact ab_mkt _
theorem ab_sub_ok {a b : ab_V} {x y : Int32} (ka : a.1 = 1) (kb : b.1 = 1) (ha : ab_okV ls h L0 h0 a (some (.int x))) (hb : ab_okV ls h L0 h0 b (some (.int y))) : ab_okV ls h L0 h0 (ab_sub a b) (some (.int (x - y))) := by
  obtain ⟨x', e1, a1, a2, a3⟩ := ab_kd1 ha ka
  obtain ⟨y', e2, b1, b2, b3⟩ := ab_kd1 hb kb
  cases e1
  cases e2
  unfold ab_sub
  split
  · next hc =>
    simp only [ab_inI, decide_eq_true_eq] at hc
    have e : (x - y).toInt = x.toInt - y.toInt := by rw [Int32.toInt_sub]; exact ab_bm (by omega) (by omega)
    refine ab_mk1 (by rw [e]; omega) (by rw [e]; omega) ?_
    rw [e]
    split
    · next hy =>
      simp only [ab_cst, decide_eq_true_eq] at hy
      have e3 : x.toInt - y.toInt = x.toInt + -b.2.1 := by omega
      rw [e3]
      exact ab_tgs_shift a3
    · exact fun _ ht => absurd ht List.not_mem_nil
  · exact ab_mkt _
theorem ab_cst1 {a : ab_V} {x : Int32} (hc : ab_cst a = true) (h1 : a.2.1 ≤ x.toInt) (h2 : x.toInt ≤ a.2.2.1) : Int32.ofInt a.2.1 = x := by
  simp only [ab_cst, decide_eq_true_eq] at hc
  have e : a.2.1 = x.toInt := by omega
  rw [e, Int32.ofInt_toInt]
theorem ab_cst2 {a : ab_V} {x : Int64} (hc : ab_cst a = true) (h1 : a.2.1 ≤ x.toInt) (h2 : x.toInt ≤ a.2.2.1) : Int64.ofInt a.2.1 = x := by
  simp only [ab_cst, decide_eq_true_eq] at hc
  have e : a.2.1 = x.toInt := by omega
  rw [e, Int64.ofInt_toInt]
theorem ab_fold_ok {f : Int32 → Int32 → Int32} {a b : ab_V} {x y : Int32} (ka : a.1 = 1) (kb : b.1 = 1) (ha : ab_okV ls h L0 h0 a (some (.int x))) (hb : ab_okV ls h L0 h0 b (some (.int y))) : ab_okV ls h L0 h0 (ab_fold f a b) (some (.int (f x y))) := by
  obtain ⟨x', e1, a1, a2, -⟩ := ab_kd1 ha ka
  obtain ⟨y', e2, b1, b2, -⟩ := ab_kd1 hb kb
  cases e1
  cases e2
  unfold ab_fold
  split
  · next hc =>
    rw [Bool.and_eq_true] at hc
    rw [ab_cst1 hc.1 a1 a2, ab_cst1 hc.2 b1 b2]
    exact ab_mkc _
  · exact ab_mkt _
theorem ab_and_le {x y : Int32} (hy : 0 ≤ y.toInt) : 0 ≤ (x &&& y).toInt ∧ (x &&& y).toInt ≤ y.toInt := by
  have hb : y.toInt = (y.toBitVec.toNat : Int) := by
    have := BitVec.toInt_eq_toNat_cond y.toBitVec
    have e : y.toInt = y.toBitVec.toInt := rfl
    rw [e] at hy ⊢
    rw [this] at hy ⊢
    split at hy
    · next hc => rw [if_pos hc]
    · next hc =>
      have := y.toBitVec.isLt
      omega
  have e : (x &&& y).toInt = (x.toBitVec &&& y.toBitVec).toInt := rfl
  have h1 : (x.toBitVec &&& y.toBitVec).toNat ≤ y.toBitVec.toNat := by rw [BitVec.toNat_and]; exact Nat.and_le_right
  have h2 := BitVec.toInt_eq_toNat_cond (x.toBitVec &&& y.toBitVec)
  have h3 : y.toInt < 2 ^ 31 := y.toInt_lt
  rw [e, h2, if_pos (by omega), hb]
  exact ⟨by omega, by omega⟩
theorem ab_and_ok {a b : ab_V} {x y : Int32} (ka : a.1 = 1) (kb : b.1 = 1) (ha : ab_okV ls h L0 h0 a (some (.int x))) (hb : ab_okV ls h L0 h0 b (some (.int y))) : ab_okV ls h L0 h0 (ab_and a b) (some (.int (x &&& y))) := by
  obtain ⟨x', e1, a1, a2, -⟩ := ab_kd1 ha ka
  obtain ⟨y', e2, b1, b2, -⟩ := ab_kd1 hb kb
  cases e1
  cases e2
  unfold ab_and
  split
  · next hc =>
    rw [Bool.and_eq_true] at hc
    rw [ab_cst1 hc.1 a1 a2, ab_cst1 hc.2 b1 b2]
    exact ab_mkc _
  · split
    · next hc =>
      simp only [Bool.and_eq_true, decide_eq_true_eq, ab_cst] at hc
      have := ab_and_le (x := x) (y := y) (by omega)
      exact ab_mk1 this.1 (by omega) (fun _ ht => absurd ht List.not_mem_nil)
    · split
      · next hc =>
        simp only [Bool.and_eq_true, decide_eq_true_eq, ab_cst] at hc
        have := ab_and_le (x := y) (y := x) (by omega)
        have e : x &&& y = y &&& x := Int32.and_comm x y
        rw [e]
        exact ab_mk1 this.1 (by omega) (fun _ ht => absurd ht List.not_mem_nil)
      · exact ab_mkt _
theorem ab_foldL_ok {f : Int64 → Int64 → Int64} {a b : ab_V} {x y : Int64} (ka : a.1 = 2) (kb : b.1 = 2) (ha : ab_okV ls h L0 h0 a (some (.long x))) (hb : ab_okV ls h L0 h0 b (some (.long y))) : ab_okV ls h L0 h0 (ab_foldL f a b) (some (.long (f x y))) := by
  obtain ⟨x', e1, a1, a2⟩ := ab_kd2 ha ka
  obtain ⟨y', e2, b1, b2⟩ := ab_kd2 hb kb
  cases e1
  cases e2
  unfold ab_foldL
  split
  · next hc =>
    rw [Bool.and_eq_true] at hc
    rw [ab_cst2 hc.1 a1 a2, ab_cst2 hc.2 b1 b2]
    exact ab_mkcl _
  · exact ab_mktL _
theorem ab_foldS_ok {f : Int64 → Int32 → Int64} {a b : ab_V} {x : Int64} {y : Int32} (ka : a.1 = 2) (kb : b.1 = 1) (ha : ab_okV ls h L0 h0 a (some (.long x))) (hb : ab_okV ls h L0 h0 b (some (.int y))) : ab_okV ls h L0 h0 (ab_foldS f a b) (some (.long (f x y))) := by
  obtain ⟨x', e1, a1, a2⟩ := ab_kd2 ha ka
  obtain ⟨y', e2, b1, b2, -⟩ := ab_kd1 hb kb
  cases e1
  cases e2
  unfold ab_foldS
  split
  · next hc =>
    rw [Bool.and_eq_true] at hc
    rw [ab_cst2 hc.1 a1 a2, ab_cst1 hc.2 b1 b2]
    exact ab_mkcl _
  · exact ab_mktL _
theorem ab_lcmp_ok {a b : ab_V} {x y : Int64} (ka : a.1 = 2) (kb : b.1 = 2) (ha : ab_okV ls h L0 h0 a (some (.long x))) (hb : ab_okV ls h L0 h0 b (some (.long y))) : ab_okV ls h L0 h0 (ab_lcmp a b) (some (.int (lg_cmp x y))) := by
  obtain ⟨x', e1, a1, a2⟩ := ab_kd2 ha ka
  obtain ⟨y', e2, b1, b2⟩ := ab_kd2 hb kb
  cases e1
  cases e2
  unfold ab_lcmp
  split
  · next hc =>
    rw [Bool.and_eq_true] at hc
    rw [ab_cst2 hc.1 a1 a2, ab_cst2 hc.2 b1 b2]
    exact ab_mkc _
  · unfold lg_cmp
    split
    · exact ab_mk1 (by decide) (by decide) (fun _ ht => absurd ht List.not_mem_nil)
    · split
      · exact ab_mk1 (by decide) (by decide) (fun _ ht => absurd ht List.not_mem_nil)
      · exact ab_mk1 (by decide) (by decide) (fun _ ht => absurd ht List.not_mem_nil)
theorem ab_chr_eq (x : Int32) : (sm_chr x).toInt = x.toInt % 65536 := by
  unfold sm_chr
  have h1 : x.toUInt32.toNat = (x.toInt % 4294967296).toNat := by
    have e : x.toUInt32.toNat = x.toBitVec.toNat := rfl
    have e2 : x.toInt = x.toBitVec.toInt := rfl
    rw [e, e2, BitVec.toInt_eq_toNat_cond]
    have := x.toBitVec.isLt
    split <;> omega
  have h2 : (x.toUInt32 % 65536).toNat = x.toUInt32.toNat % 65536 := by
    rw [UInt32.toNat_mod]
    rfl
  have h3 : (x.toUInt32 % 65536).toInt32.toInt = ((x.toUInt32 % 65536).toNat : Int) := by
    have e : (x.toUInt32 % 65536).toInt32.toInt = (x.toUInt32 % 65536).toBitVec.toInt := rfl
    rw [e, BitVec.toInt_eq_toNat_cond]
    have e3 : (x.toUInt32 % 65536).toBitVec.toNat = (x.toUInt32 % 65536).toNat := rfl
    rw [e3, h2]
    rw [if_pos (by omega)]
  rw [h3, h2, h1]
  omega
theorem ab_chr_ok {a : ab_V} {x : Int32} (ka : a.1 = 1) (ha : ab_okV ls h L0 h0 a (some (.int x))) : ab_okV ls h L0 h0 (ab_chr a) (some (.int (sm_chr x))) := by
  obtain ⟨x', e1, a1, a2, a3⟩ := ab_kd1 ha ka
  cases e1
  have e := ab_chr_eq x
  unfold ab_chr
  split
  · next hc =>
    simp only [decide_eq_true_eq] at hc
    have e2 : sm_chr x = x := by
      apply Int32.toInt_inj.mp
      rw [e]
      omega
    rw [e2]
    exact ha
  · exact ab_mk1 (by rw [e]; omega) (by rw [e]; omega) (fun _ ht => absurd ht List.not_mem_nil)
theorem ab_mm_ok {k : Nat} {a b : ab_V} {x y : Int32} (ka : a.1 = 1) (kb : b.1 = 1) (ha : ab_okV ls h L0 h0 a (some (.int x))) (hb : ab_okV ls h L0 h0 b (some (.int y))) : ab_okV ls h L0 h0 (ab_mm k a b) (some (.int (if k = 0 then (if x < y then y else x) else (if y < x then y else x)))) := by
  obtain ⟨x', e1, a1, a2, -⟩ := ab_kd1 ha ka
  obtain ⟨y', e2, b1, b2, -⟩ := ab_kd1 hb kb
  cases e1
  cases e2
  unfold ab_mm
  split
  · split
    · next hl =>
      rw [Int32.lt_iff_toInt_lt] at hl
      exact ab_mk1 (by omega) (by omega) (fun _ ht => absurd ht List.not_mem_nil)
    · next hl =>
      rw [Int32.lt_iff_toInt_lt] at hl
      exact ab_mk1 (by omega) (by omega) (fun _ ht => absurd ht List.not_mem_nil)
  · split
    · next hl =>
      rw [Int32.lt_iff_toInt_lt] at hl
      exact ab_mk1 (by omega) (by omega) (fun _ ht => absurd ht List.not_mem_nil)
    · next hl =>
      rw [Int32.lt_iff_toInt_lt] at hl
      exact ab_mk1 (by omega) (by omega) (fun _ ht => absurd ht List.not_mem_nil)
end ABO
/-! frames and shapes -/
section ABF
variable {L0 ls ls' : sm_L} {h0 h h' h'' : sm_H} {sk : ab_K} {wr wr' : List (Nat × Nat)} {st : List Value} {A : ab_A}
theorem ab_Fr.refl : ab_Fr wr h h := ⟨rfl, rfl, fun k e he => by
  rcases e with x | ⟨ci, fs⟩
  · exact fun _ => he
  · exact ⟨fs, he, fun _ _ => rfl⟩⟩
theorem ab_Fr.trans (a : ab_Fr wr h h') (b : ab_Fr wr h' h'') : ab_Fr wr h h'' := by
  refine ⟨b.1.trans a.1, b.2.1.trans a.2.1, fun k e he => ?_⟩
  have ha := a.2.2 k e he
  rcases e with x | ⟨ci, fs⟩
  · intro hn
    exact b.2.2 k _ (ha hn) hn
  · obtain ⟨fs', h1, h2⟩ := ha
    obtain ⟨fs'', h3, h4⟩ := b.2.2 k _ h1
    exact ⟨fs'', h3, fun f hf => (h4 f hf).trans (h2 f hf)⟩
theorem ab_Fr.wide (a : ab_Fr wr h h') (hw : ∀ c, ab_in wr c = true → ab_in wr' c = true) : ab_Fr wr' h h' := by
  have hn : ∀ c, ab_in wr' c = false → ab_in wr c = false := fun c hc => by
    cases e : ab_in wr c with
    | false => rfl
    | true => rw [hw c e] at hc; cases hc
  refine ⟨a.1, a.2.1, fun k e he => ?_⟩
  have ha := a.2.2 k e he
  rcases e with x | ⟨ci, fs⟩
  · exact fun hc => ha (hn _ hc)
  · obtain ⟨fs', h1, h2⟩ := ha
    exact ⟨fs', h1, fun f hf => h2 f (hn _ hf)⟩
theorem ab_Sh_set {k : Nat} {e' : sm_E} (hS : ab_Sh sk h) (hk : k < h.length) (he : ∀ s, sk[k]? = some (some s) → ab_cell s (some e')) : ab_Sh sk (h.set k e') := fun j s hj => by
  by_cases e : k = j
  · subst e
    rw [List.getElem?_set_self hk]
    exact he s hj
  · rw [List.getElem?_set_ne e]
    exact hS j s hj
theorem ab_Fr_arr {k : Nat} {x x' : Nat × vp_A} (hk : h[k]? = some (.inl x)) (hz : sm_sz (.inl x') = sm_sz (.inl x)) (hw : ab_in wr (k * 128) = true) : ab_Fr wr h (h.set k (.inl x')) := by
  refine ⟨List.length_set, sm_sl_set hz h k hk, fun j e he => ?_⟩
  by_cases ej : k = j
  · subst ej
    rw [hk] at he
    cases he
    intro hn
    rw [hw] at hn
    cases hn
  · have e1 : (h.set k (.inl x'))[j]? = some e := by rw [List.getElem?_set_ne ej]; exact he
    rcases e with x | ⟨ci, fs⟩
    · exact fun _ => e1
    · exact ⟨fs, e1, fun _ _ => rfl⟩
theorem ab_Fr_obj {k ci f : Nat} {fs : List Value} {v : Value} (hk : h[k]? = some (.inr (ci, fs))) (hw : ab_in wr (k * 128 + f) = true) : ab_Fr wr h (h.set k (.inr (ci, fs.set f v))) := by
  refine ⟨List.length_set, sm_sl_set (by simp [sm_sz]) h k hk, fun j e he => ?_⟩
  by_cases ej : k = j
  · subst ej
    rw [hk] at he
    cases he
    refine ⟨fs.set f v, List.getElem?_set_self (List.getElem?_eq_some_iff.mp hk).1, fun g hg => ?_⟩
    have : f ≠ g := fun e => by
      subst e
      rw [hw] at hg
      cases hg
    rw [List.getElem?_set_ne this]
  · have e1 : (h.set k (.inr (ci, fs.set f v)))[j]? = some e := by rw [List.getElem?_set_ne ej]; exact he
    rcases e with x | ⟨ci, fs⟩
    · exact fun _ => e1
    · exact ⟨fs, e1, fun _ _ => rfl⟩
theorem ab_fld_arr {k c : Nat} {x x' : Nat × vp_A} (hk : h[k]? = some (.inl x)) : ab_fld (h.set k (.inl x')) c = ab_fld h c := by
  unfold ab_fld
  by_cases e : k = c / 128
  · rw [← e, hk, List.getElem?_set_self (List.getElem?_eq_some_iff.mp hk).1]
  · rw [List.getElem?_set_ne e]
theorem ab_fld_at {k f ci : Nat} {fs : List Value} (hf : f < 128) (hk : h[k]? = some (.inr (ci, fs))) : ab_fld h (k * 128 + f) = fs[f]? := by
  unfold ab_fld
  have e1 : (k * 128 + f) / 128 = k := by omega
  have e2 : (k * 128 + f) % 128 = f := by omega
  rw [e1, e2, hk]
theorem ab_fld_ne {k f ci c : Nat} {fs : List Value} {v : Value} (hk : h[k]? = some (.inr (ci, fs))) (hc : c ≠ k * 128 + f) (hf : f < 128) : ab_fld (h.set k (.inr (ci, fs.set f v))) c = ab_fld h c := by
  unfold ab_fld
  by_cases e : k = c / 128
  · rw [← e, hk, List.getElem?_set_self (List.getElem?_eq_some_iff.mp hk).1]
    dsimp only
    have : f ≠ c % 128 := by omega
    rw [List.getElem?_set_ne this]
  · rw [List.getElem?_set_ne e]
/-! a move under which no tag is lost -/
theorem ab_okV_mv {a : ab_V} {v : Option Value} (hv : ab_okV ls h L0 h0 a v) (hp : ∀ t z, ab_tg ls h L0 h0 t z → ab_tg ls' h' L0 h0 t z) : ab_okV ls' h' L0 h0 a v := by
  obtain ⟨k, lo, hi, ts⟩ := a
  rcases k with _ | _ | _ | _ | k
  · trivial
  · obtain ⟨x, e, h1, h2, h3⟩ := hv
    exact ⟨x, e, h1, h2, fun t ht => hp t _ (h3 t ht)⟩
  · exact hv
  · exact hv
  · exact (show False from hv).elim
theorem ab_okSt_mv (hp : ∀ t z, ab_tg ls h L0 h0 t z → ab_tg ls' h' L0 h0 t z) : ∀ (as : List ab_V) (st : List Value), ab_okSt ls h L0 h0 as st → ab_okSt ls' h' L0 h0 as st := by
  intro as
  induction as with
  | nil => intro st hs; cases st with
    | nil => trivial
    | cons v s => exact (show False from hs).elim
  | cons a as ih => intro st hs; cases st with
    | nil => exact (show False from hs).elim
    | cons v s => exact ⟨ab_okV_mv hs.1 hp, ih s hs.2⟩
theorem ab_ok_heap (hA : ab_ok L0 h0 A ls st h) (hf : ∀ c, ab_fld h' c = ab_fld h c) : ab_ok L0 h0 A ls st h' := by
  have hp : ∀ t z, ab_tg ls h L0 h0 t z → ab_tg ls h' L0 h0 t z := fun t z ht => ⟨ht.1, fun e => by
    obtain ⟨y, h1, h2⟩ := ht.2.1 e
    exact ⟨y, by rw [hf]; exact h1, h2⟩, ht.2.2⟩
  refine ⟨⟨hA.1.1, fun j a hj => ab_okV_mv (hA.1.2 j a hj) hp⟩, ab_okSt_mv hp _ _ hA.2.1, fun e he => ?_⟩
  rw [hf]
  exact ab_okV_mv (hA.2.2 e he) hp
theorem ab_pop {a : ab_V} {r : List ab_V} (hs : ab_okSt ls h L0 h0 (a :: r) st) : ∃ v s, st = v :: s ∧ ab_okV ls h L0 h0 a (some v) ∧ ab_okSt ls h L0 h0 r s := by
  cases st with
  | nil => exact (show False from hs).elim
  | cons v s => exact ⟨v, s, rfl, hs.1, hs.2⟩
theorem ab_c1_cat {a : ab_V} {v : Value} (hv : ab_okV ls h L0 h0 a (some v)) (hc : ab_c1 a = true) : (∃ x, v = .int x) ∨ ∃ n, v = .ref n := by
  simp only [ab_c1, Bool.or_eq_true, beq_iff_eq] at hc
  rcases hc with hc | hc
  · obtain ⟨x, e, -⟩ := ab_kd1 hv hc
    cases e
    exact Or.inl ⟨x, rfl⟩
  · have e := ab_kd3 hv hc
    cases e
    exact Or.inr ⟨_, rfl⟩
theorem ab_cats_ok : ∀ (r : List ab_V) (s : List Value), ab_okSt ls h L0 h0 r s → r.all (fun a => !(a.1 == 0)) = true → (s.map fun v => v.category).sum = (r.map ab_cat).sum := by
  intro r
  induction r with
  | nil => intro s hs _; cases s with
    | nil => rfl
    | cons v s => exact (show False from hs).elim
  | cons a r ih => intro s hs hn; cases s with
    | nil => exact (show False from hs).elim
    | cons v s =>
      rw [List.all_cons, Bool.and_eq_true] at hn
      have e := ih s hs.2 hn.2
      simp only [List.map_cons, List.sum_cons, e]
      have hv := hs.1
      obtain ⟨k, lo, hi, ts⟩ := a
      rcases k with _ | _ | _ | _ | k
      · simp at hn
      · obtain ⟨x, e1, -⟩ := ab_kd1 hv rfl
        cases e1
        rfl
      · obtain ⟨x, e1, -⟩ := ab_kd2 hv rfl
        cases e1
        rfl
      · have e1 := ab_kd3 hv rfl
        cases e1
        rfl
      · exact (show False from hv).elim
theorem ab_cats_le {r : List ab_V} {s : List Value} (hs : ab_okSt ls h L0 h0 r s) (hc : ab_cats r = true) : (s.map fun v => v.category).sum ≤ 8 := by
  simp only [ab_cats, Bool.and_eq_true, decide_eq_true_eq] at hc
  rw [ab_cats_ok r s hs hc.2]
  exact hc.1
/-! branches: what is known of the numbers becomes more -/
theorem ab_cmp (c : ClassFile.Cond) (x y : Int32) : sm_cmp c x y = match c with
    | .eq => decide (x.toInt = y.toInt)
    | .ne => !decide (x.toInt = y.toInt)
    | .lt => decide (x.toInt < y.toInt)
    | .ge => decide (y.toInt ≤ x.toInt)
    | .gt => decide (y.toInt < x.toInt)
    | .le => decide (x.toInt ≤ y.toInt) := by
  cases c <;> simp only [sm_cmp, Int32.lt_iff_toInt_lt, Int32.le_iff_toInt_le, ← Int32.toInt_inj]
theorem ab_cmp_neg (c : ClassFile.Cond) (x y : Int32) : sm_cmp (ab_neg c) x y = !sm_cmp c x y := by
  rw [ab_cmp, ab_cmp]
  cases c <;> simp only [ab_neg, Bool.not_not] <;> (rw [Bool.eq_iff_iff]; simp only [Bool.not_eq_true', decide_eq_true_eq, decide_eq_false_iff_not]; omega)
theorem ab_meet_ok {a : ab_V} {v : Option Value} {lo hi : Int} (hv : ab_okV ls h L0 h0 a v) (hb : ∀ x : Int32, v = some (.int x) → lo ≤ x.toInt ∧ x.toInt ≤ hi) : ab_okV ls h L0 h0 (ab_meet lo hi a) v := by
  unfold ab_meet
  split
  · next hk =>
    obtain ⟨x, e, h1, h2, h3⟩ := ab_kd1 hv hk
    have := hb x e
    exact ⟨x, e, by show max _ _ ≤ _; omega, by show _ ≤ min _ _; omega, h3⟩
  · exact hv
theorem ab_mod_at {l : List ab_V} {f : ab_V → ab_V} {i j : Nat} {a : ab_V} (hj : (ab_mod j f l)[i]? = some a) : (i = j ∧ ∃ b, l[i]? = some b ∧ a = f b) ∨ l[i]? = some a := by
  unfold ab_mod at hj
  split at hj
  · next b hb =>
    by_cases e : j = i
    · subst e
      rw [List.getElem?_set_self (List.getElem?_eq_some_iff.mp hb).1] at hj
      cases hj
      exact Or.inl ⟨rfl, b, hb, rfl⟩
    · rw [List.getElem?_set_ne e] at hj
      exact Or.inr hj
  · exact Or.inr hj
theorem ab_mod_len {l : List ab_V} {f : ab_V → ab_V} {j : Nat} : (ab_mod j f l).length = l.length := by
  unfold ab_mod
  split
  · rw [List.length_set]
  · rfl
theorem ab_ref1_ok {t : ab_T} {lo hi z : Int} (hA : ab_ok L0 h0 A ls st h) (ht : ab_tg ls h L0 h0 t z) (h1 : lo ≤ z) (h2 : z ≤ hi) : ab_ok L0 h0 (ab_ref1 lo hi A t) ls st h := by
  unfold ab_ref1
  split
  · next e =>
    obtain ⟨y, g1, g2⟩ := ht.1 e
    refine ⟨⟨by rw [ab_mod_len]; exact hA.1.1, fun i a hi' => ?_⟩, hA.2.1, hA.2.2⟩
    rcases ab_mod_at hi' with ⟨rfl, b, hb, rfl⟩ | hb
    · refine ab_meet_ok (hA.1.2 _ b hb) fun x hx => ?_
      rw [g1] at hx
      cases hx
      omega
    · exact hA.1.2 i a hb
  · split
    · next e =>
      obtain ⟨y, g1, g2⟩ := ht.2.1 e
      refine ⟨hA.1, hA.2.1, fun e1 he1 => ?_⟩
      obtain ⟨e2, he2, rfl⟩ := List.mem_map.mp he1
      have := hA.2.2 e2 he2
      split
      · next ec =>
        refine ab_meet_ok this fun x hx => ?_
        rw [ec, g1] at hx
        cases hx
        omega
      · exact this
    · exact hA
theorem ab_refs_ok {lo hi z : Int} (h1 : lo ≤ z) (h2 : z ≤ hi) : ∀ (ts : List ab_T) (A : ab_A), ab_ok L0 h0 A ls st h → (∀ t ∈ ts, ab_tg ls h L0 h0 t z) → ab_ok L0 h0 (ab_refs ts lo hi A) ls st h := by
  intro ts
  induction ts with
  | nil => intro A hA _; exact hA
  | cons t ts ih => intro A hA ht; exact ih _ (ab_ref1_ok hA (ht t List.mem_cons_self) h1 h2) (fun u hu => ht u (List.mem_cons_of_mem _ hu))
theorem ab_cutR_ok {c : ClassFile.Cond} {x y : Int32} {xl xh yl yh : Int} (hc : sm_cmp c x y = true) (h1 : xl ≤ x.toInt) (h2 : x.toInt ≤ xh) (h3 : yl ≤ y.toInt) (h4 : y.toInt ≤ yh) :
    (ab_cutR c xl xh yl yh).1 ≤ x.toInt ∧ x.toInt ≤ (ab_cutR c xl xh yl yh).2.1 ∧ (ab_cutR c xl xh yl yh).2.2.1 ≤ y.toInt ∧ y.toInt ≤ (ab_cutR c xl xh yl yh).2.2.2 := by
  rw [ab_cmp] at hc
  cases c <;> simp only [ab_cutR, decide_eq_true_eq, Bool.not_eq_true', decide_eq_false_iff_not] at hc ⊢
  · exact ⟨by omega, by omega, by omega, by omega⟩
  · exact ⟨by split <;> omega, by split <;> omega, by split <;> omega, by split <;> omega⟩
  · exact ⟨by omega, by omega, by omega, by omega⟩
  · exact ⟨by omega, by omega, by omega, by omega⟩
  · exact ⟨by omega, by omega, by omega, by omega⟩
  · exact ⟨by omega, by omega, by omega, by omega⟩
theorem ab_br_ok {c : ClassFile.Cond} {x y : Int32} {a b : ab_V} {pc : Nat} (ka : a.1 = 1) (kb : b.1 = 1) (ha : ab_okV ls h L0 h0 a (some (.int x))) (hb : ab_okV ls h L0 h0 b (some (.int y))) (hA : ab_ok L0 h0 A ls st h) (hc : sm_cmp c x y = true) :
    ∃ A', (pc, A') ∈ ab_br c a b pc A ∧ ab_ok L0 h0 A' ls st h := by
  obtain ⟨x', e1, a1, a2, a3⟩ := ab_kd1 ha ka
  obtain ⟨y', e2, b1, b2, b3⟩ := ab_kd1 hb kb
  cases e1
  cases e2
  obtain ⟨g1, g2, g3, g4⟩ := ab_cutR_ok hc a1 a2 b1 b2
  unfold ab_br
  generalize ab_cutR c a.2.1 a.2.2.1 b.2.1 b.2.2.1 = R at g1 g2 g3 g4
  obtain ⟨r1, r2, r3, r4⟩ := R
  dsimp only at g1 g2 g3 g4 ⊢
  rw [if_pos ⟨by omega, by omega⟩]
  exact ⟨_, List.mem_singleton.mpr rfl, ab_refs_ok g3 g4 _ _ (ab_refs_ok g1 g2 _ _ hA a3) b3⟩
theorem ab_sw_ok {x : Int32} {a : ab_V} {pc : Nat} {o : Int} (ka : a.1 = 1) (ha : ab_okV ls h L0 h0 a (some (.int x))) (hA : ab_ok L0 h0 A ls st h) : ∀ (offs : List Int) (i : Int), i ≤ x.toInt → offs[(x.toInt - i).toNat]? = some o → ∃ A', (sm_jmp pc o, A') ∈ ab_sw a pc A i offs ∧ ab_ok L0 h0 A' ls st h := by
  obtain ⟨x', e1, a1, a2, a3⟩ := ab_kd1 ha ka
  cases e1
  intro offs
  induction offs with
  | nil => intro i _ ho; simp at ho
  | cons o1 r ih =>
    intro i hi ho
    unfold ab_sw
    by_cases e : x.toInt = i
    · have e2 : (x.toInt - i).toNat = 0 := by omega
      rw [e2] at ho
      simp at ho
      subst ho
      refine ⟨_, List.mem_append_left _ (by rw [if_pos ⟨by omega, by omega⟩]; exact List.mem_singleton.mpr rfl), ab_refs_ok (z := x.toInt) (by omega) (by omega) _ _ hA a3⟩
    · have e2 : (x.toInt - i).toNat = (x.toInt - (i + 1)).toNat + 1 := by omega
      rw [e2, List.getElem?_cons_succ] at ho
      obtain ⟨A', m1, m2⟩ := ih (i + 1) (by omega) ho
      exact ⟨A', List.mem_append_right _ m1, m2⟩
end ABF
/-! a step leads to one of the states that are told -/
def ab_to (sk : ab_K) (wr : List (Nat × Nat)) (L0 : sm_L) (h0 : sm_H) (outs : List (Nat × ab_A)) (h : sm_H) (r : Option sm_R) : Prop :=
  ∃ o ∈ outs, ∃ (ls' : sm_L) (st' : List Value) (h' : sm_H), r = some (.inl (o.1, ls', st', h')) ∧ ab_ok L0 h0 o.2 ls' st' h' ∧ ab_Sh sk h' ∧ ab_Fr wr h h'
section ABG
variable {L0 ls : sm_L} {h0 h : sm_H} {sk : ab_K} {wr : List (Nat × Nat)} {st : List Value} {A : ab_A} {outs : List (Nat × ab_A)} {pc len k : Nat}
theorem ab_to_same {pc' : Nat} {A' : ab_A} {st' : List Value} (hA : ab_ok L0 h0 A' ls st' h) (hS : ab_Sh sk h) : ab_to sk wr L0 h0 [(pc', A')] h (some (.inl (pc', ls, st', h))) :=
  ⟨_, List.mem_singleton.mpr rfl, ls, st', h, rfl, hA, hS, ab_Fr.refl⟩
theorem ab_push_ok {a : ab_V} {v : Value} (hs : ab_push pc a A = some outs) (hA : ab_ok L0 h0 A ls st h) (hS : ab_Sh sk h) (hv : ab_okV ls h L0 h0 a (some v)) : ab_to sk wr L0 h0 outs h (some (.inl (pc, ls, v :: st, h))) := by
  unfold ab_push at hs
  cases hs
  exact ab_to_same ⟨hA.1, ⟨hv, hA.2.1⟩, hA.2.2⟩ hS
theorem ab_load1_ok (hs : ab_load 1 k len pc A = some outs) (hA : ab_ok L0 h0 A ls st h) (hS : ab_Sh sk h) : ab_to sk wr L0 h0 outs h (sm_loadK sm_isI len k pc ls st h) := by
  unfold ab_load at hs
  split at hs
  · next v hv =>
    split at hs
    · next hk =>
      obtain ⟨x, e, h1, h2, h3⟩ := ab_kd1 (hA.1.2 k v hv) hk
      unfold sm_loadK
      rw [e]
      refine ab_push_ok (v := .int x) hs hA hS ?_
      rw [if_pos rfl]
      refine ab_mk1 h1 h2 fun t ht => ?_
      rcases List.mem_cons.mp ht with rfl | ht
      · exact ⟨fun _ => ⟨x, e, by dsimp only; omega⟩, fun z => (by cases z), fun z => (by cases z), fun z => (by cases z)⟩
      · exact h3 t ht
    · cases hs
  · cases hs
theorem ab_load2_ok (hs : ab_load 2 k len pc A = some outs) (hA : ab_ok L0 h0 A ls st h) (hS : ab_Sh sk h) : ab_to sk wr L0 h0 outs h (sm_loadK sm_isL len k pc ls st h) := by
  unfold ab_load at hs
  split at hs
  · next v hv =>
    split at hs
    · next hk =>
      have hx := hA.1.2 k v hv
      obtain ⟨x, e, h1, h2⟩ := ab_kd2 hx hk
      unfold sm_loadK
      rw [e] at hx ⊢
      refine ab_push_ok (v := .long x) hs hA hS ?_
      rw [if_neg (by decide)]
      exact hx
    · cases hs
  · cases hs
theorem ab_load3_ok (hs : ab_load 3 k len pc A = some outs) (hA : ab_ok L0 h0 A ls st h) (hS : ab_Sh sk h) : ab_to sk wr L0 h0 outs h (sm_loadK sm_isA len k pc ls st h) := by
  unfold ab_load at hs
  split at hs
  · next v hv =>
    split at hs
    · next hk =>
      have hx := hA.1.2 k v hv
      have e := ab_kd3 hx hk
      unfold sm_loadK
      rw [e] at hx ⊢
      refine ab_push_ok (v := .ref v.2.1.toNat) hs hA hS ?_
      rw [if_neg (by decide)]
      exact hx
    · cases hs
  · cases hs
theorem ab_put1_some {w : Value} (hk : k < ls.length) : sm_put1 ls k w = some ((sm_kill ls k).set k (some w)) := if_pos hk
theorem ab_store1_ok (hs : ab_store 1 k len pc A = some outs) (hA : ab_ok L0 h0 A ls st h) (hS : ab_Sh sk h) : ab_to sk wr L0 h0 outs h (sm_store1 sm_isI len k pc ls st h) := by
  obtain ⟨al, as, hc⟩ := A
  cases as with
  | nil => cases hs
  | cons a r =>
    simp only [ab_store] at hs
    split at hs
    · next hk =>
      obtain ⟨v, s, rfl, hv, hr⟩ := ab_pop hA.2.1
      obtain ⟨x, e, -⟩ := ab_kd1 hv hk.1
      cases e
      have hp := ab_put1_some (ls := ls) (k := k) (w := .int x) (by rw [← hA.1.1]; exact hk.2)
      cases hs
      simp only [sm_store1, sm_isI, if_true]
      rw [hp]
      exact ⟨_, List.mem_singleton.mpr rfl, _, s, h, rfl, ab_set1 (A := (al, r, hc)) ⟨hA.1, hr, hA.2.2⟩ hv hp, hS, ab_Fr.refl⟩
    · cases hs
theorem ab_store3_ok (hs : ab_store 3 k len pc A = some outs) (hA : ab_ok L0 h0 A ls st h) (hS : ab_Sh sk h) : ab_to sk wr L0 h0 outs h (sm_store1 sm_isA len k pc ls st h) := by
  obtain ⟨al, as, hc⟩ := A
  cases as with
  | nil => cases hs
  | cons a r =>
    simp only [ab_store] at hs
    split at hs
    · next hk =>
      obtain ⟨v, s, rfl, hv, hr⟩ := ab_pop hA.2.1
      have e := ab_kd3 hv hk.1
      cases e
      have hp := ab_put1_some (ls := ls) (k := k) (w := .ref a.2.1.toNat) (by rw [← hA.1.1]; exact hk.2)
      cases hs
      simp only [sm_store1, sm_isA, if_true]
      rw [hp]
      exact ⟨_, List.mem_singleton.mpr rfl, _, s, h, rfl, ab_set1 (A := (al, r, hc)) ⟨hA.1, hr, hA.2.2⟩ hv hp, hS, ab_Fr.refl⟩
    · cases hs
theorem ab_store2_ok (hs : ab_storeL k len pc A = some outs) (hA : ab_ok L0 h0 A ls st h) (hS : ab_Sh sk h) : ab_to sk wr L0 h0 outs h (sm_store2 len k pc ls st h) := by
  obtain ⟨al, as, hc⟩ := A
  cases as with
  | nil => cases hs
  | cons a r =>
    simp only [ab_storeL] at hs
    split at hs
    · next hk =>
      obtain ⟨v, s, rfl, hv, hr⟩ := ab_pop hA.2.1
      obtain ⟨x, e, g1, g2⟩ := ab_kd2 hv hk.1
      cases e
      have hp : sm_put2 ls k (.long x) = some (((sm_kill ls k).set k (some (.long x))).set (k + 1) none) := if_pos (by rw [← hA.1.1]; exact hk.2)
      cases hs
      simp only [sm_store2]
      rw [hp]
      exact ⟨_, List.mem_singleton.mpr rfl, _, s, h, rfl, ab_set2 (A := (al, r, hc)) ⟨hA.1, hr, hA.2.2⟩ (ab_mk2 g1 g2) hp, hS, ab_Fr.refl⟩
    · cases hs
theorem ab_bin_ok {f : Int32 → Int32 → Int32} {g : ab_V → ab_V → ab_V} (hg : ∀ (a b : ab_V) (x y : Int32), a.1 = 1 → b.1 = 1 → ab_okV ls h L0 h0 a (some (.int x)) → ab_okV ls h L0 h0 b (some (.int y)) → ab_okV ls h L0 h0 (g a b) (some (.int (f x y))))
    (hs : ab_bin g pc A = some outs) (hA : ab_ok L0 h0 A ls st h) (hS : ab_Sh sk h) : ab_to sk wr L0 h0 outs h (sm_bin f pc ls st h) := by
  obtain ⟨al, as, hc⟩ := A
  rcases as with _ | ⟨b, _ | ⟨a, r⟩⟩
  · cases hs
  · cases hs
  · simp only [ab_bin] at hs
    split at hs
    · next hk =>
      obtain ⟨v, s1, rfl, hv, hr1⟩ := ab_pop hA.2.1
      obtain ⟨w, s, rfl, hw, hr⟩ := ab_pop hr1
      obtain ⟨y, e, -⟩ := ab_kd1 hv hk.1
      cases e
      obtain ⟨x, e, -⟩ := ab_kd1 hw hk.2
      cases e
      cases hs
      exact ab_to_same ⟨hA.1, ⟨hg a b x y hk.2 hk.1 hw hv, hr⟩, hA.2.2⟩ hS
    · cases hs
theorem ab_binL_ok {f : Int64 → Int64 → Int64} {g : ab_V → ab_V → ab_V} (hg : ∀ (a b : ab_V) (x y : Int64), a.1 = 2 → b.1 = 2 → ab_okV ls h L0 h0 a (some (.long x)) → ab_okV ls h L0 h0 b (some (.long y)) → ab_okV ls h L0 h0 (g a b) (some (.long (f x y))))
    (hs : ab_binL g pc A = some outs) (hA : ab_ok L0 h0 A ls st h) (hS : ab_Sh sk h) : ab_to sk wr L0 h0 outs h (sm_binL f pc ls st h) := by
  obtain ⟨al, as, hc⟩ := A
  rcases as with _ | ⟨b, _ | ⟨a, r⟩⟩
  · cases hs
  · cases hs
  · simp only [ab_binL] at hs
    split at hs
    · next hk =>
      obtain ⟨v, s1, rfl, hv, hr1⟩ := ab_pop hA.2.1
      obtain ⟨w, s, rfl, hw, hr⟩ := ab_pop hr1
      obtain ⟨y, e, -⟩ := ab_kd2 hv hk.1
      cases e
      obtain ⟨x, e, -⟩ := ab_kd2 hw hk.2
      cases e
      cases hs
      exact ab_to_same ⟨hA.1, ⟨hg a b x y hk.2 hk.1 hw hv, hr⟩, hA.2.2⟩ hS
    · cases hs
/-- two numbers on the stack: what they are -/
theorem ab_two {kd kd' : Nat} {al r : List ab_V} {a b : ab_V} {hc : ab_HC} (hA : ab_ok L0 h0 (al, b :: a :: r, hc) ls st h) : ∃ v w s, st = v :: w :: s ∧ ab_okV ls h L0 h0 b (some v) ∧ ab_okV ls h L0 h0 a (some w) ∧ ab_okSt ls h L0 h0 r s := by
  obtain ⟨v, s1, rfl, hv, hr1⟩ := ab_pop hA.2.1
  obtain ⟨w, s, rfl, hw, hr⟩ := ab_pop hr1
  exact ⟨v, w, s, rfl, hv, hw, hr⟩
theorem ab_n0d_ok {y : Int32} {b : ab_V} (hn : ab_n0d b = true) (h1 : b.2.1 ≤ y.toInt) (h2 : y.toInt ≤ b.2.2.1) : y ≠ 0 := fun e => by
  simp only [ab_n0d, decide_eq_true_eq] at hn
  subst e
  have e : (0 : Int32).toInt = 0 := rfl
  omega
theorem ab_n0dL_ok {y : Int64} {b : ab_V} (hn : ab_n0d b = true) (h1 : b.2.1 ≤ y.toInt) (h2 : y.toInt ≤ b.2.2.1) : y ≠ 0 := fun e => by
  simp only [ab_n0d, decide_eq_true_eq] at hn
  subst e
  have e : (0 : Int64).toInt = 0 := rfl
  omega
theorem ab_if_ok {c : ClassFile.Cond} {x y : Int32} {a b : ab_V} {off : Int} (hs : ab_if c a b pc off A = some outs) (ha : ab_okV ls h L0 h0 a (some (.int x))) (hb : ab_okV ls h L0 h0 b (some (.int y))) (hA : ab_ok L0 h0 A ls st h) (hS : ab_Sh sk h) :
    ab_to sk wr L0 h0 outs h (sm_if (sm_cmp c x y) pc off ls st h) := by
  unfold ab_if at hs
  split at hs
  · next hk =>
    cases hs
    cases hcm : sm_cmp c x y with
    | true =>
      obtain ⟨A', m1, m2⟩ := ab_br_ok (pc := sm_jmp pc off) hk.1 hk.2 ha hb hA hcm
      exact ⟨_, List.mem_append_left _ m1, ls, st, h, rfl, m2, hS, ab_Fr.refl⟩
    | false =>
      obtain ⟨A', m1, m2⟩ := ab_br_ok (pc := pc + 3) hk.1 hk.2 ha hb hA (by rw [ab_cmp_neg, hcm]; rfl : sm_cmp (ab_neg c) x y = true)
      exact ⟨_, List.mem_append_right _ m1, ls, st, h, rfl, m2, hS, ab_Fr.refl⟩
  · cases hs
theorem ab_ix {x : Int32} {n : Nat} {a : ab_V} (hi : ab_ixok a n = true) (h1 : a.2.1 ≤ x.toInt) (h2 : x.toInt ≤ a.2.2.1) : sm_ix x n = true ∧ x.toNatClampNeg < n ∧ (x.toNatClampNeg : Int) = x.toInt := by
  simp only [ab_ixok, decide_eq_true_eq] at hi
  have e : x.toNatClampNeg = x.toInt.toNat := rfl
  have hlt : x.toNatClampNeg < n := by rw [e]; omega
  refine ⟨?_, hlt, by rw [e]; omega⟩
  simp only [sm_ix, decide_eq_true_eq]
  refine ⟨fun hn => ?_, hlt⟩
  rw [Int32.lt_iff_toInt_lt] at hn
  have e2 : (0 : Int32).toInt = 0 := rfl
  omega
theorem ab_ald_ok {t : Nat} (hs : ab_ald t sk pc A = some outs) (hA : ab_ok L0 h0 A ls st h) (hS : ab_Sh sk h) : ab_to sk wr L0 h0 outs h (sm_ald t pc ls st h) := by
  obtain ⟨al, as, hc⟩ := A
  rcases as with _ | ⟨i, _ | ⟨a, r⟩⟩
  · cases hs
  · cases hs
  · simp only [ab_ald] at hs
    split at hs
    · next ka =>
      split at hs
      · next t' n lo hi ex hk =>
        split at hs
        · next hc1 =>
          obtain ⟨rfl, ht, hi1, hC⟩ := hc1
          obtain ⟨v, w, s, rfl, hv, hw, hr⟩ := ab_two (kd := 0) (kd' := 0) hA
          have ew := ab_kd3 hw ka
          cases ew
          have ki : i.1 = 1 := by simp only [ab_ixok, decide_eq_true_eq] at hi1; exact hi1.1
          obtain ⟨x, e, g1, g2, -⟩ := ab_kd1 hv ki
          cases e
          obtain ⟨k1, k2, k3⟩ := ab_ix hi1 g1 g2
          obtain ⟨c, e1, e2⟩ := hS _ _ hk
          have ⟨f, ef⟩ : ∃ f, c = .inl f := by
            rcases c with f | f | f | f | f
            · exact ⟨f, rfl⟩
            · exact absurd e2.1 ht
            · exact (show False from e2).elim
            · exact (show False from e2).elim
            · exact (show False from e2).elim
          subst ef
          have hstep : sm_ald t' pc ls (.int x :: .ref a.2.1.toNat :: s) h = some (.inl (pc + 1, ls, .int (f x.toNatClampNeg) :: s, h)) := by
            simp only [sm_ald]
            rw [e1]
            dsimp only
            rw [if_pos ⟨rfl, k1, hC⟩]
            rfl
          cases hs
          rw [hstep]
          obtain ⟨f1, f2, f3⟩ := e2.2 _ k2
          refine ab_to_same ⟨hA.1, ⟨?_, hr⟩, hA.2.2⟩ hS
          have hdef : ab_okV ls h L0 h0 (1, lo, hi, []) (some (.int (f x.toNatClampNeg))) := ab_mk1 f1 f2 (fun _ ht => absurd ht List.not_mem_nil)
          split
          · next hcs =>
            split
            · next z hz =>
              simp only [ab_cst, decide_eq_true_eq] at hcs
              have e5 : i.2.1.toNat = x.toNatClampNeg := by
                have : x.toNatClampNeg = x.toInt.toNat := rfl
                rw [this]
                omega
              rw [e5] at hz
              rw [← f3 z hz]
              exact ab_mkc _
            · exact hdef
          · exact hdef
        · cases hs
      · cases hs
    · cases hs
theorem ab_aldL_ok (hs : ab_aldL sk pc A = some outs) (hA : ab_ok L0 h0 A ls st h) (hS : ab_Sh sk h) : ab_to sk wr L0 h0 outs h (sm_aldL pc ls st h) := by
  obtain ⟨al, as, hc⟩ := A
  rcases as with _ | ⟨i, _ | ⟨a, r⟩⟩
  · cases hs
  · cases hs
  · simp only [ab_aldL] at hs
    split at hs
    · next ka =>
      split at hs
      · next t' n lo hi ex hk =>
        split at hs
        · next hc1 =>
          obtain ⟨rfl, hi1, hC⟩ := hc1
          obtain ⟨v, w, s, rfl, hv, hw, hr⟩ := ab_two (kd := 0) (kd' := 0) hA
          have ew := ab_kd3 hw ka
          cases ew
          have ki : i.1 = 1 := by simp only [ab_ixok, decide_eq_true_eq] at hi1; exact hi1.1
          obtain ⟨x, e, g1, g2, -⟩ := ab_kd1 hv ki
          cases e
          obtain ⟨k1, k2, k3⟩ := ab_ix hi1 g1 g2
          obtain ⟨c, e1, e2⟩ := hS _ _ hk
          have ⟨f, ef⟩ : ∃ f, c = .inr (.inl f) := by
            rcases c with f | f | f | f | f
            · exact absurd rfl e2.1
            · exact ⟨f, rfl⟩
            · exact (show False from e2).elim
            · exact (show False from e2).elim
            · exact (show False from e2).elim
          subst ef
          cases hs
          simp only [sm_aldL]
          rw [e1]
          dsimp only
          rw [if_pos ⟨rfl, k1, hC⟩]
          obtain ⟨f1, f2⟩ := e2.2 _ k2
          exact ab_to_same ⟨hA.1, ⟨ab_mk2 f1 f2, hr⟩, hA.2.2⟩ hS
        · cases hs
      · cases hs
    · cases hs
theorem ab_ast_ok {t : Nat} {g : Int32 → Int32} (hg : ∀ (a : ab_V) (x : Int32), a.1 = 1 → ab_okV ls h L0 h0 a (some (.int x)) → (ab_gv t a).1 = 1 ∧ ab_okV ls h L0 h0 (ab_gv t a) (some (.int (g x)))) (hs : ab_ast t sk wr pc A = some outs) (hA : ab_ok L0 h0 A ls st h) (hS : ab_Sh sk h) : ab_to sk wr L0 h0 outs h (sm_ast t g pc ls st h) := by
  obtain ⟨al, as, hc⟩ := A
  rcases as with _ | ⟨y, _ | ⟨i, _ | ⟨a, r⟩⟩⟩
  · cases hs
  · cases hs
  · cases hs
  · simp only [ab_ast] at hs
    split at hs
    · next ka =>
      split at hs
      · next t' n lo hi ex hk =>
        split at hs
        · next hc1 =>
          obtain ⟨rfl, ht, hi1, hC, rfl, l1, l2, hw1⟩ := hc1
          obtain ⟨u, s1, rfl, hu, hr1⟩ := ab_pop hA.2.1
          obtain ⟨v, s2, rfl, hv, hr2⟩ := ab_pop hr1
          obtain ⟨w, s, rfl, hw, hr⟩ := ab_pop hr2
          have ew := ab_kd3 hw ka.1
          cases ew
          have ki : i.1 = 1 := by simp only [ab_ixok, decide_eq_true_eq] at hi1; exact hi1.1
          obtain ⟨x, e, g1, g2, -⟩ := ab_kd1 hv ki
          cases e
          obtain ⟨z, e, -⟩ := ab_kd1 hu ka.2
          cases e
          obtain ⟨k1, k2, k3⟩ := ab_ix hi1 g1 g2
          obtain ⟨c, e1, e2⟩ := hS _ _ hk
          have ⟨f, ef⟩ : ∃ f, c = .inl f := by
            rcases c with f | f | f | f | f
            · exact ⟨f, rfl⟩
            · exact absurd e2.1 ht
            · exact (show False from e2).elim
            · exact (show False from e2).elim
            · exact (show False from e2).elim
          subst ef
          cases hs
          simp only [sm_ast]
          rw [e1]
          dsimp only
          rw [if_pos ⟨rfl, k1, hC⟩]
          obtain ⟨q1, q2⟩ := hg y z ka.2 hu
          obtain ⟨z', e5, m1, m2, -⟩ := ab_kd1 q2 q1
          cases e5
          refine ⟨_, List.mem_singleton.mpr rfl, ls, s, _, rfl, ab_ok_heap (A := (al, r, hc)) ⟨hA.1, hr, hA.2.2⟩ (fun c => ab_fld_arr e1), ab_Sh_set hS (List.getElem?_eq_some_iff.mp e1).1 (fun s hs => ?_), ab_Fr_arr e1 rfl hw1⟩
          rw [hk] at hs
          cases hs
          refine ⟨_, rfl, ht, fun j hj => ?_⟩
          obtain ⟨f1, f2, f3⟩ := e2.2 j hj
          refine ⟨?_, ?_, f3 |> fun _ => by intro z hz; simp at hz⟩
          · unfold upd
            split
            · exact Int.le_trans l1 m1
            · exact f1
          · unfold upd
            split
            · exact Int.le_trans m2 l2
            · exact f2
        · cases hs
      · cases hs
    · cases hs
theorem ab_astL_ok (hs : ab_astL sk wr pc A = some outs) (hA : ab_ok L0 h0 A ls st h) (hS : ab_Sh sk h) : ab_to sk wr L0 h0 outs h (sm_astL pc ls st h) := by
  obtain ⟨al, as, hc⟩ := A
  rcases as with _ | ⟨y, _ | ⟨i, _ | ⟨a, r⟩⟩⟩
  · cases hs
  · cases hs
  · cases hs
  · simp only [ab_astL] at hs
    split at hs
    · next ka =>
      split at hs
      · next t' n lo hi ex hk =>
        split at hs
        · next hc1 =>
          obtain ⟨rfl, hi1, hC, l1, l2, hw1⟩ := hc1
          obtain ⟨u, s1, rfl, hu, hr1⟩ := ab_pop hA.2.1
          obtain ⟨v, s2, rfl, hv, hr2⟩ := ab_pop hr1
          obtain ⟨w, s, rfl, hw, hr⟩ := ab_pop hr2
          have ew := ab_kd3 hw ka.1
          cases ew
          have ki : i.1 = 1 := by simp only [ab_ixok, decide_eq_true_eq] at hi1; exact hi1.1
          obtain ⟨x, e, g1, g2, -⟩ := ab_kd1 hv ki
          cases e
          obtain ⟨z, e, m1, m2⟩ := ab_kd2 hu ka.2
          cases e
          obtain ⟨k1, k2, k3⟩ := ab_ix hi1 g1 g2
          obtain ⟨c, e1, e2⟩ := hS _ _ hk
          have ⟨f, ef⟩ : ∃ f, c = .inr (.inl f) := by
            rcases c with f | f | f | f | f
            · exact absurd rfl e2.1
            · exact ⟨f, rfl⟩
            · exact (show False from e2).elim
            · exact (show False from e2).elim
            · exact (show False from e2).elim
          subst ef
          cases hs
          simp only [sm_astL]
          rw [e1]
          dsimp only
          rw [if_pos ⟨rfl, k1, hC⟩]
          refine ⟨_, List.mem_singleton.mpr rfl, ls, s, _, rfl, ab_ok_heap (A := (al, r, hc)) ⟨hA.1, hr, hA.2.2⟩ (fun c => ab_fld_arr e1), ab_Sh_set hS (List.getElem?_eq_some_iff.mp e1).1 (fun s hs => ?_), ab_Fr_arr e1 rfl hw1⟩
          rw [hk] at hs
          cases hs
          refine ⟨_, rfl, rfl, fun j hj => ?_⟩
          obtain ⟨f1, f2⟩ := e2.2 j hj
          refine ⟨?_, ?_⟩
          · unfold vp_updL
            split
            · exact Int.le_trans l1 m1
            · exact f1
          · unfold vp_updL
            split
            · exact Int.le_trans m2 l2
            · exact f2
        · cases hs
      · cases hs
    · cases hs
theorem ab_alen_ok {rs : List Nat} (hs : ab_alen sk pc A = some outs) (hA : ab_ok L0 h0 A ls st h) (hS : ab_Sh sk h) : ab_to sk wr L0 h0 outs h (sm_step (.arraylength, len, rs) pc ls st h) := by
  obtain ⟨al, as, hc⟩ := A
  rcases as with _ | ⟨a, r⟩
  · cases hs
  · simp only [ab_alen] at hs
    split at hs
    · next ka =>
      split at hs
      · next t n lo hi ex hk =>
        split at hs
        · next hc1 =>
          obtain ⟨w, s, rfl, hw, hr⟩ := ab_pop hA.2.1
          have ew := ab_kd3 hw ka
          cases ew
          obtain ⟨c, e1, e2⟩ := hS _ _ hk
          cases hs
          simp only [sm_step]
          rw [e1]
          dsimp only
          rw [if_pos hc1.1]
          have e3 : (Int32.ofNat n).toInt = (n : Int) := by
            have e4 : Int32.ofNat n = Int32.ofInt (n : Int) := rfl
            rw [e4]
            exact Int32.toInt_ofInt_of_le (by omega) (by have := hc1.2; omega)
          refine ab_to_same ⟨hA.1, ⟨?_, hr⟩, hA.2.2⟩ hS
          rw [← e3]
          exact ab_mkc _
        · cases hs
      · cases hs
    · cases hs
theorem ab_hget_mem : ∀ (hc : ab_HC) (c : Nat) (v : ab_V), ab_hget hc c = some v → (c, v) ∈ hc := by
  intro hc
  induction hc with
  | nil => intro c v hv; simp [ab_hget] at hv
  | cons e r ih =>
    intro c v hv
    simp only [ab_hget] at hv
    split at hv
    · next he =>
      cases hv
      rw [← he]
      exact List.mem_cons_self
    · exact List.mem_cons_of_mem _ (ih c v hv)
theorem ab_getf_ok {rs : List Nat} (hs : ab_getf sk rs pc A = some outs) (hA : ab_ok L0 h0 A ls st h) (hS : ab_Sh sk h) : ab_to sk wr L0 h0 outs h (sm_getf rs pc ls st h) := by
  obtain ⟨al, as, hc⟩ := A
  rcases as with _ | ⟨a, r⟩
  · cases hs
  rcases rs with _ | ⟨k, _ | ⟨z, cs⟩⟩
  · cases hs
  · cases hs
  · simp only [ab_getf] at hs
    split at hs
    · next ka =>
      split at hs
      · next ci fl hk =>
        split at hs
        · next hc1 =>
          obtain ⟨g1, g2, g3⟩ := hc1
          obtain ⟨w, s, rfl, hw, hr⟩ := ab_pop hA.2.1
          have ew := ab_kd3 hw ka
          cases ew
          obtain ⟨fs, e1, e2, e3⟩ := hS _ _ hk
          split at hs
          · next t lo hi hf =>
            have hlt : k < fs.length := by rw [e2]; exact (List.getElem?_eq_some_iff.mp hf).1
            have hv : fs[k]? = some fs[k] := List.getElem?_eq_getElem hlt
            have hfv := e3 k _ _ hf hv
            have hfld : ab_fld h (a.2.1.toNat * 128 + k) = some fs[k] := by rw [ab_fld_at g2 e1]; exact hv
            simp only [sm_getf]
            rw [e1]
            dsimp only
            rw [if_pos ⟨g1, g3⟩, hv]
            dsimp only
            split at hs
            · next ht =>
              subst ht
              obtain ⟨x, ex, b1, b2⟩ := hfv
              rw [ex] at hfld ⊢
              have htag : ab_tg ls h L0 h0 (1, a.2.1.toNat * 128 + k, 0) x.toInt := ⟨fun z => (by cases z), fun _ => ⟨x, hfld, by dsimp only; omega⟩, fun z => (by cases z), fun z => (by cases z)⟩
              split at hs
              · next v hv2 =>
                split at hs
                · next kv =>
                  cases hs
                  have hin := hA.2.2 _ (ab_hget_mem _ _ _ hv2)
                  obtain ⟨x2, ex2, c1, c2, c3⟩ := ab_kd1 hin kv
                  rw [hfld] at ex2
                  cases ex2
                  refine ab_to_same ⟨hA.1, ⟨ab_mk1 c1 c2 fun t ht => ?_, hr⟩, hA.2.2⟩ hS
                  rcases List.mem_cons.mp ht with rfl | ht
                  · exact htag
                  · exact c3 t ht
                · cases hs
              · cases hs
                refine ab_to_same ⟨hA.1, ⟨ab_mk1 b1 b2 fun t ht => ?_, hr⟩, fun e he => ?_⟩ hS
                · rw [List.mem_singleton.mp ht]
                  exact htag
                · rcases List.mem_cons.mp he with rfl | he
                  · show ab_okV ls h L0 h0 (1, lo, hi, []) (ab_fld h (a.2.1.toNat * 128 + k))
                    rw [hfld]
                    exact ab_mk1 b1 b2 (fun _ ht => absurd ht List.not_mem_nil)
                  · exact hA.2.2 e he
            · split at hs
              · next ht =>
                subst ht
                obtain ⟨x, ex, b1, b2⟩ := hfv
                rw [ex] at hfld ⊢
                split at hs
                · next v hv2 =>
                  split at hs
                  · next kv =>
                    cases hs
                    have hin := hA.2.2 _ (ab_hget_mem _ _ _ hv2)
                    dsimp only at hin
                    rw [hfld] at hin
                    exact ab_to_same ⟨hA.1, ⟨hin, hr⟩, hA.2.2⟩ hS
                  · cases hs
                · cases hs
                  exact ab_to_same ⟨hA.1, ⟨ab_mk2 b1 b2, hr⟩, hA.2.2⟩ hS
              · next ht0 ht1 =>
                cases hs
                have ex : fs[k] = .ref lo.toNat := by
                  rcases t with _ | _ | t
                  · exact absurd rfl ht0
                  · exact absurd rfl ht1
                  · exact hfv
                rw [ex]
                exact ab_to_same ⟨hA.1, ⟨rfl, hr⟩, hA.2.2⟩ hS
          · cases hs
        · cases hs
      · cases hs
    · cases hs
theorem ab_fits_ok {t : Nat} {a : ab_V} {v : Value} (hf : ab_fits t a = true) (hv : ab_okV ls h L0 h0 a (some v)) : sm_fit t v = true := by
  simp only [ab_fits, decide_eq_true_eq] at hf
  rcases hf with ⟨rfl, hk⟩ | ⟨rfl, hk⟩ | ⟨rfl, hk, l1, l2⟩ | ⟨rfl, hk, l1, l2⟩
  · obtain ⟨x, e, -⟩ := ab_kd1 hv hk
    cases e
    rfl
  · obtain ⟨x, e, -⟩ := ab_kd2 hv hk
    cases e
    rfl
  · obtain ⟨x, e, g1, g2, -⟩ := ab_kd1 hv hk
    cases e
    simp only [sm_fit, decide_eq_true_eq, ← Int32.toInt_inj]
    have e0 : (0 : Int32).toInt = 0 := rfl
    have e1 : (1 : Int32).toInt = 1 := rfl
    omega
  · obtain ⟨x, e, g1, g2, -⟩ := ab_kd1 hv hk
    cases e
    simp only [sm_fit, decide_eq_true_eq, Int32.le_iff_toInt_le]
    have e0 : (0 : Int32).toInt = 0 := rfl
    have e1 : (65535 : Int32).toInt = 65535 := rfl
    omega
theorem ab_putf_ok {rs : List Nat} (hs : ab_putf sk wr rs pc A = some outs) (hA : ab_ok L0 h0 A ls st h) (hS : ab_Sh sk h) : ab_to sk wr L0 h0 outs h (sm_putf rs pc ls st h) := by
  obtain ⟨al, as, hc⟩ := A
  rcases as with _ | ⟨y, _ | ⟨a, r⟩⟩
  · cases hs
  · cases hs
  rcases rs with _ | ⟨k, _ | ⟨t, _ | ⟨fin, cs⟩⟩⟩
  · cases hs
  · cases hs
  · cases hs
  · simp only [ab_putf] at hs
    split at hs
    · next ka =>
      split at hs
      · next ci fl hk =>
        split at hs
        · next hc1 =>
          obtain ⟨g1, g2, g3, g4, g5⟩ := hc1
          split at hs
          · next t' lo hi hf =>
            split at hs
            · next hc2 =>
              obtain ⟨k1, k2, k3⟩ := hc2
              obtain ⟨v, s1, rfl, hv, hr1⟩ := ab_pop hA.2.1
              obtain ⟨w, s, rfl, hw, hr⟩ := ab_pop hr1
              have ew := ab_kd3 hw ka
              cases ew
              obtain ⟨fs, e1, e2, e3⟩ := hS _ _ hk
              have hlt : k < fs.length := by rw [e2]; exact (List.getElem?_eq_some_iff.mp hf).1
              have hcl := (List.getElem?_eq_some_iff.mp e1).1
              cases hs
              simp only [sm_putf]
              rw [e1]
              dsimp only
              rw [if_pos ⟨g1, hlt, ab_fits_ok g5 hv, g3⟩]
              have hne : ∀ c, c ≠ a.2.1.toNat * 128 + k → ab_fld (h.set a.2.1.toNat (.inr (ci, fs.set k v))) c = ab_fld h c := fun c hcn => ab_fld_ne e1 hcn g2
              have heq : ab_fld (h.set a.2.1.toNat (.inr (ci, fs.set k v))) (a.2.1.toNat * 128 + k) = some v := by
                rw [ab_fld_at (ci := ci) (fs := fs.set k v) g2 (List.getElem?_set_self hcl), List.getElem?_set_self hlt]
              have hmv : ∀ t z, ab_nf (a.2.1.toNat * 128 + k) t = true → ab_tg ls h L0 h0 t z → ab_tg ls (h.set a.2.1.toNat (.inr (ci, fs.set k v))) L0 h0 t z := fun t z hn ht => ⟨ht.1, fun e => by
                obtain ⟨y, h1, h2⟩ := ht.2.1 e
                refine ⟨y, ?_, h2⟩
                rw [hne _ (fun e2 => by
                  unfold ab_nf at hn
                  rw [e, e2] at hn
                  simp at hn)]
                exact h1, ht.2.2⟩
              refine ⟨_, List.mem_singleton.mpr rfl, ls, s, _, rfl, ⟨ab_keepL hmv hA.1, ab_keepSt hmv _ _ hr, fun e he => ?_⟩, ab_Sh_set hS hcl (fun sh hsh => ?_), ab_Fr_obj e1 g4⟩
              · rcases List.mem_cons.mp he with rfl | he
                · dsimp only
                  rw [heq]
                  exact ab_keep_ok (ab_keep_ok hv (fun _ _ _ z => z)) hmv
                · refine ab_keepHc hmv (hc := hc.filter (fun e => !(e.1 == a.2.1.toNat * 128 + k))) (fun e he => hA.2.2 e (List.mem_filter.mp he).1) (fun e he => hne _ ?_) e he
                  have := (List.mem_filter.mp he).2
                  simpa using this
              · rw [hk] at hsh
                cases hsh
                refine ⟨fs.set k v, rfl, by rw [List.length_set]; exact e2, fun i x u hx hu => ?_⟩
                by_cases ei : k = i
                · subst ei
                  rw [List.getElem?_set_self hlt] at hu
                  cases hu
                  rw [hf] at hx
                  cases hx
                  rcases k1 with ⟨rfl, kv⟩ | ⟨rfl, kv⟩
                  · obtain ⟨x, e, b1, b2, -⟩ := ab_kd1 hv kv
                    cases e
                    exact ⟨x, rfl, Int.le_trans k2 b1, Int.le_trans b2 k3⟩
                  · obtain ⟨x, e, b1, b2⟩ := ab_kd2 hv kv
                    cases e
                    exact ⟨x, rfl, Int.le_trans k2 b1, Int.le_trans b2 k3⟩
                · rw [List.getElem?_set_ne ei] at hu
                  exact e3 i x u hx hu
            · cases hs
          · cases hs
        · cases hs
      · cases hs
    · cases hs
end ABG
/-! every instruction -/
section ABH
variable {L0 ls : sm_L} {h0 h : sm_H} {sk : ab_K} {wr : List (Nat × Nat)} {st : List Value} {A : ab_A} {outs : List (Nat × ab_A)} {pc : Nat}
theorem ab_ald34 {r : sm_R} (h4 : sm_ald 4 pc ls st h = some r) : sm_ald 3 pc ls st h = none := by
  unfold sm_ald at h4 ⊢
  split at h4
  · split at h4
    · next i a r t n f ha =>
      split at h4
      · next hc =>
        exact if_neg (fun z => by have := hc.1; have := z.1; omega)
      · cases h4
    · cases h4
  · cases h4
theorem ab_un_inv {kd : Nat} {g : ab_V → ab_V} (hs : ab_un kd g pc A = some outs) (hA : ab_ok L0 h0 A ls st h) : ∃ a v s r, A.2.1 = a :: r ∧ a.1 = kd ∧ st = v :: s ∧ ab_okV ls h L0 h0 a (some v) ∧ ab_okSt ls h L0 h0 r s ∧ outs = [(pc + 1, (A.1, g a :: r, A.2.2))] := by
  obtain ⟨al, as, hc⟩ := A
  rcases as with _ | ⟨a, r⟩
  · cases hs
  · simp only [ab_un] at hs
    split at hs
    · next hk =>
      obtain ⟨v, s, rfl, hv, hr⟩ := ab_pop hA.2.1
      cases hs
      exact ⟨a, v, s, r, rfl, hk, rfl, hv, hr, rfl⟩
    · cases hs
theorem ab_div_inv {kd : Nat} {g : ab_V → ab_V → ab_V} (hs : ab_div g kd pc A = some outs) (hA : ab_ok L0 h0 A ls st h) : ∃ a b v w s r, b.1 = kd ∧ a.1 = kd ∧ ab_n0d b = true ∧ st = v :: w :: s ∧ ab_okV ls h L0 h0 b (some v) ∧ ab_okV ls h L0 h0 a (some w) ∧ ab_okSt ls h L0 h0 r s ∧ outs = [(pc + 1, (A.1, g a b :: r, A.2.2))] := by
  obtain ⟨al, as, hc⟩ := A
  rcases as with _ | ⟨b, _ | ⟨a, r⟩⟩
  · cases hs
  · cases hs
  · simp only [ab_div] at hs
    split at hs
    · next hk =>
      obtain ⟨v, w, s, rfl, hv, hw, hr⟩ := ab_two (kd := 0) (kd' := 0) hA
      cases hs
      exact ⟨a, b, v, w, s, r, hk.1, hk.2.1, hk.2.2, rfl, hv, hw, hr, rfl⟩
    · cases hs
theorem ab_binS_inv {g : ab_V → ab_V → ab_V} (hs : ab_binS g pc A = some outs) (hA : ab_ok L0 h0 A ls st h) : ∃ (a b : ab_V) (x : Int64) (y : Int32) (s : List Value) (r : List ab_V), a.1 = 2 ∧ b.1 = 1 ∧ st = .int y :: .long x :: s ∧ ab_okV ls h L0 h0 b (some (.int y)) ∧ ab_okV ls h L0 h0 a (some (.long x)) ∧ ab_okSt ls h L0 h0 r s ∧ outs = [(pc + 1, (A.1, g a b :: r, A.2.2))] := by
  obtain ⟨al, as, hc⟩ := A
  rcases as with _ | ⟨b, _ | ⟨a, r⟩⟩
  · cases hs
  · cases hs
  · simp only [ab_binS] at hs
    split at hs
    · next hk =>
      obtain ⟨v, w, s, rfl, hv, hw, hr⟩ := ab_two (kd := 0) (kd' := 0) hA
      obtain ⟨y, e, -⟩ := ab_kd1 hv hk.1
      cases e
      obtain ⟨x, e, -⟩ := ab_kd2 hw hk.2
      cases e
      cases hs
      exact ⟨a, b, x, y, s, r, hk.2, hk.1, rfl, hv, hw, hr, rfl⟩
    · cases hs
set_option maxHeartbeats 4000000 in
theorem ab_step_ok {q : sm_I} (hs : ab_step sk wr q pc A = some outs) (hA : ab_ok L0 h0 A ls st h) (hS : ab_Sh sk h) : ab_to sk wr L0 h0 outs h (sm_step q pc ls st h) := by
  obtain ⟨i, len, rs⟩ := q
  cases i with
  | iconst n => exact ab_push_ok hs hA hS (ab_mkc _)
  | bipush n => exact ab_push_ok hs hA hS (ab_mkc _)
  | sipush n => exact ab_push_ok hs hA hS (ab_mkc _)
  | lconst n => exact ab_push_ok hs hA hS (ab_mkcl _)
  | ldc n =>
    simp only [ab_step] at hs
    simp only [sm_step]
    split at hs
    · exact ab_push_ok hs hA hS (ab_mkc _)
    · exact ab_push_ok hs hA hS (ab_mk3 _)
    · cases hs
  | ldc_w n =>
    simp only [ab_step] at hs
    simp only [sm_step]
    split at hs
    · exact ab_push_ok hs hA hS (ab_mkc _)
    · cases hs
  | ldc2_w n =>
    simp only [ab_step] at hs
    simp only [sm_step]
    split at hs
    · exact ab_push_ok hs hA hS (ab_mkcl _)
    · cases hs
  | iload_n k => exact ab_load1_ok hs hA hS
  | iload k => exact ab_load1_ok hs hA hS
  | lload_n k => exact ab_load2_ok hs hA hS
  | lload k => exact ab_load2_ok hs hA hS
  | aload_n k => exact ab_load3_ok hs hA hS
  | aload k => exact ab_load3_ok hs hA hS
  | istore_n k => exact ab_store1_ok hs hA hS
  | istore k => exact ab_store1_ok hs hA hS
  | astore_n k => exact ab_store3_ok hs hA hS
  | astore k => exact ab_store3_ok hs hA hS
  | lstore_n k => exact ab_store2_ok hs hA hS
  | lstore k => exact ab_store2_ok hs hA hS
  | iinc k n =>
    simp only [ab_step, ab_iinc] at hs
    split at hs
    · next v hv =>
      split at hs
      · next hk =>
        have hx := hA.1.2 k v hv
        obtain ⟨x, e, h1, h2, h3⟩ := ab_kd1 hx hk
        rw [e] at hx
        have hlt : k < ls.length := by rw [← hA.1.1]; exact (List.getElem?_eq_some_iff.mp hv).1
        have hp := ab_put1_some (ls := ls) (k := k) (w := .int (x + Int32.ofInt n)) hlt
        cases hs
        simp only [sm_step]
        rw [e]
        dsimp only
        rw [hp]
        exact ⟨_, List.mem_singleton.mpr rfl, _, st, h, rfl, ab_set1 hA (ab_add_ok hk rfl hx (ab_mkc _)) hp, hS, ab_Fr.refl⟩
      · cases hs
    · cases hs
  | iadd => exact ab_bin_ok (fun a b x y => ab_add_ok) hs hA hS
  | isub => exact ab_bin_ok (fun a b x y => ab_sub_ok) hs hA hS
  | iand => exact ab_bin_ok (fun a b x y => ab_and_ok) hs hA hS
  | imul => exact ab_bin_ok (f := (· * ·)) (fun a b x y => ab_fold_ok) hs hA hS
  | ior => exact ab_bin_ok (f := (· ||| ·)) (fun a b x y => ab_fold_ok) hs hA hS
  | ixor => exact ab_bin_ok (f := (· ^^^ ·)) (fun a b x y => ab_fold_ok) hs hA hS
  | ishl => exact ab_bin_ok (f := fun x y => x <<< (y &&& 31)) (fun a b x y => ab_fold_ok) hs hA hS
  | ishr => exact ab_bin_ok (f := fun x y => x >>> (y &&& 31)) (fun a b x y => ab_fold_ok) hs hA hS
  | iushr => exact ab_bin_ok (f := fun x y => (x.toUInt32 >>> (y.toUInt32 &&& Int32.toUInt32 31)).toInt32) (fun a b x y => ab_fold_ok) hs hA hS
  | idiv =>
    obtain ⟨a, b, v, w, s, r, kb, ka, hn, rfl, hv, hw, hr, rfl⟩ := ab_div_inv (kd := 1) hs hA
    obtain ⟨y, e, g1, g2, -⟩ := ab_kd1 hv kb
    cases e
    obtain ⟨x, e, -⟩ := ab_kd1 hw ka
    cases e
    simp only [sm_step]
    rw [if_neg (ab_n0d_ok hn g1 g2)]
    exact ab_to_same ⟨hA.1, ⟨ab_fold_ok (f := (· / ·)) ka kb hw hv, hr⟩, hA.2.2⟩ hS
  | irem =>
    obtain ⟨a, b, v, w, s, r, kb, ka, hn, rfl, hv, hw, hr, rfl⟩ := ab_div_inv (kd := 1) hs hA
    obtain ⟨y, e, g1, g2, -⟩ := ab_kd1 hv kb
    cases e
    obtain ⟨x, e, -⟩ := ab_kd1 hw ka
    cases e
    simp only [sm_step]
    rw [if_neg (ab_n0d_ok hn g1 g2)]
    exact ab_to_same ⟨hA.1, ⟨ab_fold_ok (f := fun x y => x - x / y * y) ka kb hw hv, hr⟩, hA.2.2⟩ hS
  | lrem =>
    obtain ⟨a, b, v, w, s, r, kb, ka, hn, rfl, hv, hw, hr, rfl⟩ := ab_div_inv (kd := 2) hs hA
    obtain ⟨y, e, g1, g2⟩ := ab_kd2 hv kb
    cases e
    obtain ⟨x, e, -⟩ := ab_kd2 hw ka
    cases e
    simp only [sm_step]
    rw [if_neg (ab_n0dL_ok hn g1 g2)]
    exact ab_to_same ⟨hA.1, ⟨ab_foldL_ok (f := fun x y => x - x / y * y) ka kb hw hv, hr⟩, hA.2.2⟩ hS
  | ldiv =>
    obtain ⟨a, b, v, w, s, r, kb, ka, hn, rfl, hv, hw, hr, rfl⟩ := ab_div_inv (kd := 2) hs hA
    obtain ⟨y, e, g1, g2⟩ := ab_kd2 hv kb
    cases e
    obtain ⟨x, e, -⟩ := ab_kd2 hw ka
    cases e
    simp only [sm_step]
    rw [if_neg (ab_n0dL_ok hn g1 g2)]
    exact ab_to_same ⟨hA.1, ⟨ab_foldL_ok (f := (· / ·)) ka kb hw hv, hr⟩, hA.2.2⟩ hS
  | ineg =>
    obtain ⟨a, v, s, r, ea, hk, rfl, hv, hr, rfl⟩ := ab_un_inv (kd := 1) hs hA
    obtain ⟨x, e, -⟩ := ab_kd1 hv hk
    cases e
    exact ab_to_same ⟨hA.1, ⟨ab_mkt _, hr⟩, hA.2.2⟩ hS
  | ladd => exact ab_binL_ok (f := (· + ·)) (fun a b x y => ab_foldL_ok) hs hA hS
  | lsub => exact ab_binL_ok (f := (· - ·)) (fun a b x y => ab_foldL_ok) hs hA hS
  | lmul => exact ab_binL_ok (f := (· * ·)) (fun a b x y => ab_foldL_ok) hs hA hS
  | land => exact ab_binL_ok (f := (· &&& ·)) (fun a b x y => ab_foldL_ok) hs hA hS
  | lor => exact ab_binL_ok (f := (· ||| ·)) (fun a b x y => ab_foldL_ok) hs hA hS
  | lxor => exact ab_binL_ok (f := (· ^^^ ·)) (fun a b x y => ab_foldL_ok) hs hA hS
  | lushr =>
    obtain ⟨a, b, x, y, s, r, ka, kb, rfl, hb, ha, hr, rfl⟩ := ab_binS_inv hs hA
    exact ab_to_same ⟨hA.1, ⟨ab_foldS_ok (f := fun x y => (x.toUInt64 >>> (y.toInt64.toUInt64 &&& Int64.toUInt64 63)).toInt64) ka kb ha hb, hr⟩, hA.2.2⟩ hS
  | lshl =>
    obtain ⟨a, b, x, y, s, r, ka, kb, rfl, hb, ha, hr, rfl⟩ := ab_binS_inv hs hA
    exact ab_to_same ⟨hA.1, ⟨ab_foldS_ok (f := fun x y => x <<< (y.toInt64 &&& 63)) ka kb ha hb, hr⟩, hA.2.2⟩ hS
  | lshr =>
    obtain ⟨a, b, x, y, s, r, ka, kb, rfl, hb, ha, hr, rfl⟩ := ab_binS_inv hs hA
    exact ab_to_same ⟨hA.1, ⟨ab_foldS_ok (f := fun x y => x >>> (y.toInt64 &&& 63)) ka kb ha hb, hr⟩, hA.2.2⟩ hS
  | lcmp =>
    simp only [ab_step] at hs
    obtain ⟨al, as, hc⟩ := A
    rcases as with _ | ⟨b, _ | ⟨a, r⟩⟩
    · cases hs
    · cases hs
    · simp only [ab_binL] at hs
      split at hs
      · next hk =>
        obtain ⟨v, w, s, rfl, hv, hw, hr⟩ := ab_two (kd := 0) (kd' := 0) hA
        obtain ⟨y, e, -⟩ := ab_kd2 hv hk.1
        cases e
        obtain ⟨x, e, -⟩ := ab_kd2 hw hk.2
        cases e
        cases hs
        exact ab_to_same ⟨hA.1, ⟨ab_lcmp_ok hk.2 hk.1 hw hv, hr⟩, hA.2.2⟩ hS
      · cases hs
  | i2l =>
    obtain ⟨a, v, s, r, ea, hk, rfl, hv, hr, rfl⟩ := ab_un_inv (kd := 1) hs hA
    obtain ⟨x, e, h1, h2, -⟩ := ab_kd1 hv hk
    cases e
    exact ab_to_same ⟨hA.1, ⟨ab_mk2 (by rw [Int32.toInt_toInt64]; exact h1) (by rw [Int32.toInt_toInt64]; exact h2), hr⟩, hA.2.2⟩ hS
  | l2i =>
    obtain ⟨a, v, s, r, ea, hk, rfl, hv, hr, rfl⟩ := ab_un_inv (kd := 2) hs hA
    obtain ⟨x, e, h1, h2⟩ := ab_kd2 hv hk
    cases e
    refine ab_to_same ⟨hA.1, ⟨?_, hr⟩, hA.2.2⟩ hS
    split
    · next hc =>
      simp only [ab_inI, decide_eq_true_eq] at hc
      have e2 : x.toInt32.toInt = x.toInt := by rw [Int64.toInt_toInt32]; exact ab_bm (by omega) (by omega)
      exact ab_mk1 (by rw [e2]; exact h1) (by rw [e2]; exact h2) (fun _ ht => absurd ht List.not_mem_nil)
    · exact ab_mkt _
  | i2c =>
    obtain ⟨a, v, s, r, ea, hk, rfl, hv, hr, rfl⟩ := ab_un_inv (kd := 1) hs hA
    obtain ⟨x, e, h1, h2, -⟩ := ab_kd1 hv hk
    cases e
    exact ab_to_same ⟨hA.1, ⟨ab_chr_ok hk hv, hr⟩, hA.2.2⟩ hS
  | i2b =>
    obtain ⟨a, v, s, r, ea, hk, rfl, hv, hr, rfl⟩ := ab_un_inv (kd := 1) hs hA
    obtain ⟨x, e, -⟩ := ab_kd1 hv hk
    cases e
    exact ab_to_same ⟨hA.1, ⟨ab_mkt _, hr⟩, hA.2.2⟩ hS
  | dup =>
    obtain ⟨al, as, hc⟩ := A
    rcases as with _ | ⟨a, r⟩
    · cases hs
    · simp only [ab_step] at hs
      split at hs
      · next hk =>
        obtain ⟨v, s, rfl, hv, hr⟩ := ab_pop hA.2.1
        cases hs
        rcases ab_c1_cat hv hk with ⟨x, rfl⟩ | ⟨x, rfl⟩
        · exact ab_to_same ⟨hA.1, ⟨hv, hv, hr⟩, hA.2.2⟩ hS
        · exact ab_to_same ⟨hA.1, ⟨hv, hv, hr⟩, hA.2.2⟩ hS
      · cases hs
  | pop =>
    obtain ⟨al, as, hc⟩ := A
    rcases as with _ | ⟨a, r⟩
    · cases hs
    · simp only [ab_step] at hs
      split at hs
      · next hk =>
        obtain ⟨v, s, rfl, hv, hr⟩ := ab_pop hA.2.1
        cases hs
        rcases ab_c1_cat hv hk with ⟨x, rfl⟩ | ⟨x, rfl⟩
        · exact ab_to_same ⟨hA.1, hr, hA.2.2⟩ hS
        · exact ab_to_same ⟨hA.1, hr, hA.2.2⟩ hS
      · cases hs
  | dup_x1 =>
    obtain ⟨al, as, hc⟩ := A
    rcases as with _ | ⟨a, _ | ⟨b, r⟩⟩
    · cases hs
    · cases hs
    · simp only [ab_step] at hs
      split at hs
      · next hk =>
        obtain ⟨v, w, s, rfl, hv, hw, hr⟩ := ab_two (kd := 0) (kd' := 0) hA
        cases hs
        rcases ab_c1_cat hv hk.1 with ⟨x, rfl⟩ | ⟨x, rfl⟩ <;> rcases ab_c1_cat hw hk.2 with ⟨y, rfl⟩ | ⟨y, rfl⟩ <;>
          exact ab_to_same ⟨hA.1, ⟨hv, hw, hv, hr⟩, hA.2.2⟩ hS
      · cases hs
  | dup_x2 =>
    obtain ⟨al, as, hc⟩ := A
    rcases as with _ | ⟨a, _ | ⟨b, _ | ⟨c, r⟩⟩⟩
    · cases hs
    · cases hs
    · cases hs
    · simp only [ab_step] at hs
      split at hs
      · next hk =>
        obtain ⟨v, s1, rfl, hv, hr1⟩ := ab_pop hA.2.1
        obtain ⟨w, s2, rfl, hw, hr2⟩ := ab_pop hr1
        obtain ⟨u, s, rfl, hu, hr⟩ := ab_pop hr2
        cases hs
        rcases ab_c1_cat hv hk.1 with ⟨x, rfl⟩ | ⟨x, rfl⟩ <;> rcases ab_c1_cat hw hk.2.1 with ⟨y, rfl⟩ | ⟨y, rfl⟩ <;> rcases ab_c1_cat hu hk.2.2 with ⟨z, rfl⟩ | ⟨z, rfl⟩ <;>
          exact ab_to_same ⟨hA.1, ⟨hv, hw, hu, hv, hr⟩, hA.2.2⟩ hS
      · cases hs
  | dup2 =>
    obtain ⟨al, as, hc⟩ := A
    rcases as with _ | ⟨a, r⟩
    · cases hs
    · simp only [ab_step] at hs
      split at hs
      · next hk =>
        obtain ⟨v, s, rfl, hv, hr⟩ := ab_pop hA.2.1
        obtain ⟨x, e, -⟩ := ab_kd2 hv hk
        cases e
        cases hs
        exact ab_to_same ⟨hA.1, ⟨hv, hv, hr⟩, hA.2.2⟩ hS
      · split at hs
        · next b r2 =>
          split at hs
          · next hk =>
            obtain ⟨v, w, s, rfl, hv, hw, hr⟩ := ab_two (kd := 0) (kd' := 0) hA
            cases hs
            rcases ab_c1_cat hv hk.1 with ⟨x, rfl⟩ | ⟨x, rfl⟩ <;> rcases ab_c1_cat hw hk.2 with ⟨y, rfl⟩ | ⟨y, rfl⟩ <;>
              exact ab_to_same ⟨hA.1, ⟨hv, hw, hv, hw, hr⟩, hA.2.2⟩ hS
          · cases hs
        · cases hs
  | pop2 =>
    obtain ⟨al, as, hc⟩ := A
    rcases as with _ | ⟨a, r⟩
    · cases hs
    · simp only [ab_step] at hs
      split at hs
      · next hk =>
        obtain ⟨v, s, rfl, hv, hr⟩ := ab_pop hA.2.1
        obtain ⟨x, e, -⟩ := ab_kd2 hv hk
        cases e
        cases hs
        exact ab_to_same ⟨hA.1, hr, hA.2.2⟩ hS
      · split at hs
        · next b r2 =>
          split at hs
          · next hk =>
            obtain ⟨v, w, s, rfl, hv, hw, hr⟩ := ab_two (kd := 0) (kd' := 0) hA
            cases hs
            rcases ab_c1_cat hv hk.1 with ⟨x, rfl⟩ | ⟨x, rfl⟩ <;> rcases ab_c1_cat hw hk.2 with ⟨y, rfl⟩ | ⟨y, rfl⟩ <;>
              exact ab_to_same ⟨hA.1, hr, hA.2.2⟩ hS
          · cases hs
        · cases hs
  | if_icmp c off =>
    obtain ⟨al, as, hc⟩ := A
    rcases as with _ | ⟨b, _ | ⟨a, r⟩⟩
    · cases hs
    · cases hs
    · have hs' : ab_if c a b pc off (al, r, hc) = some outs := hs
      obtain ⟨v, w, s, rfl, hv, hw, hr⟩ := ab_two (kd := 0) (kd' := 0) hA
      have hk : a.1 = 1 ∧ b.1 = 1 := by
        unfold ab_if at hs'
        split at hs'
        · next hk => exact hk
        · cases hs'
      obtain ⟨y, e, -⟩ := ab_kd1 hv hk.2
      cases e
      obtain ⟨x, e, -⟩ := ab_kd1 hw hk.1
      cases e
      exact ab_if_ok hs' hw hv ⟨hA.1, hr, hA.2.2⟩ hS
  | ifCond c off =>
    obtain ⟨al, as, hc⟩ := A
    rcases as with _ | ⟨a, r⟩
    · cases hs
    · have hs' : ab_if c a (ab_ci 0) pc off (al, r, hc) = some outs := hs
      obtain ⟨v, s, rfl, hv, hr⟩ := ab_pop hA.2.1
      have hk : a.1 = 1 := by
        unfold ab_if at hs'
        split at hs'
        · next hk => exact hk.1
        · cases hs'
      obtain ⟨x, e, -⟩ := ab_kd1 hv hk
      cases e
      exact ab_if_ok hs' hv (ab_mkc (0 : Int32)) ⟨hA.1, hr, hA.2.2⟩ hS
  | goto off =>
    cases hs
    exact ab_to_same hA hS
  | tableswitch d lo hi offs =>
    obtain ⟨al, as, hc⟩ := A
    rcases as with _ | ⟨a, r⟩
    · cases hs
    · simp only [ab_step, ab_switch] at hs
      split at hs
      · next hk =>
        obtain ⟨v, s, rfl, hv, hr⟩ := ab_pop hA.2.1
        obtain ⟨x, e, h1, h2, h3⟩ := ab_kd1 hv hk.1
        cases e
        cases hs
        have hA2 : ab_ok L0 h0 (al, r, hc) ls s h := ⟨hA.1, hr, hA.2.2⟩
        simp only [sm_step]
        by_cases hout : x.toInt < lo ∨ hi < x.toInt
        · rw [if_pos hout]
          refine ⟨(sm_jmp pc d, (al, r, hc)), List.mem_append_left _ ?_, ls, s, h, rfl, hA2, hS, ab_Fr.refl⟩
          rw [if_neg (by omega)]
          exact List.mem_singleton.mpr rfl
        · rw [if_neg hout]
          have hsz := hk.2
          rw [Array.length_toList] at hsz
          have hlt : (x.toInt - lo).toNat < offs.size := by omega
          have ho : offs.toList[(x.toInt - lo).toNat]? = some offs[(x.toInt - lo).toNat] := by rw [Array.getElem?_toList]; exact Array.getElem?_eq_getElem hlt
          obtain ⟨A', m1, m2⟩ := ab_sw_ok (pc := pc) hk.1 hv hA2 offs.toList lo (by omega) ho
          rw [Array.getElem?_eq_getElem hlt]
          exact ⟨_, List.mem_append_right _ m1, ls, s, h, rfl, m2, hS, ab_Fr.refl⟩
      · cases hs
  | arraylength => exact ab_alen_ok hs hA hS
  | iaload => exact ab_ald_ok hs hA hS
  | caload => exact ab_ald_ok hs hA hS
  | baload =>
    simp only [ab_step] at hs
    simp only [sm_step]
    split at hs
    · next o ho =>
      cases hs
      obtain ⟨o1, m1, ls', st', h', e, z⟩ := ab_ald_ok (wr := wr) ho hA hS
      rw [e]
      exact ⟨o1, m1, ls', st', h', rfl, z⟩
    · obtain ⟨o1, m1, ls', st', h', e, z⟩ := ab_ald_ok (wr := wr) hs hA hS
      rw [ab_ald34 e]
      exact ⟨o1, m1, ls', st', h', e, z⟩
  | iastore => exact ab_ast_ok (g := fun x => x) (fun a x ka ha => ⟨ka, ha⟩) hs hA hS
  | bastore => exact ab_ast_ok (g := fun x => x &&& 1) (fun a x ka ha => ⟨rfl, ab_mk1 (ab_and_le (by decide)).1 (ab_and_le (x := x) (y := 1) (by decide)).2 (fun _ ht => absurd ht List.not_mem_nil)⟩) hs hA hS
  | castore => exact ab_ast_ok (g := sm_chr) (fun a x ka ha => ⟨by show (ab_chr a).1 = 1; unfold ab_chr; split; exact ka; rfl, ab_chr_ok ka ha⟩) hs hA hS
  | laload => exact ab_aldL_ok hs hA hS
  | lastore => exact ab_astL_ok hs hA hS
  | getstatic n =>
    simp only [ab_step] at hs
    simp only [sm_step]
    split at hs
    · exact ab_push_ok hs hA hS (ab_mkc _)
    · cases hs
  | getfield n => exact ab_getf_ok hs hA hS
  | putfield n => exact ab_putf_ok hs hA hS
  | invokestatic n =>
    obtain ⟨al, as, hc⟩ := A
    simp only [ab_step] at hs
    split at hs
    · rcases as with _ | ⟨b, _ | ⟨a, r⟩⟩
      · cases hs
      · cases hs
      · dsimp only at hs
        split at hs
        · next hk =>
          obtain ⟨v, w, s, rfl, hv, hw, hr⟩ := ab_two (kd := 0) (kd' := 0) hA
          obtain ⟨y, e, -⟩ := ab_kd1 hv hk.1
          cases e
          obtain ⟨x, e, -⟩ := ab_kd1 hw hk.2.1
          cases e
          cases hs
          simp only [sm_step]
          rw [if_pos (ab_cats_le hr hk.2.2)]
          exact ab_to_same ⟨hA.1, ⟨ab_mm_ok hk.2.1 hk.1 hw hv, hr⟩, hA.2.2⟩ hS
        · cases hs
    · rcases as with _ | ⟨b, _ | ⟨a, r⟩⟩
      · cases hs
      · cases hs
      · dsimp only at hs
        split at hs
        · next hk =>
          obtain ⟨v, w, s, rfl, hv, hw, hr⟩ := ab_two (kd := 0) (kd' := 0) hA
          obtain ⟨y, e, b1, b2, -⟩ := ab_kd1 hv hk.1
          cases e
          obtain ⟨x, e, a1, a2, -⟩ := ab_kd1 hw hk.2.1
          cases e
          cases hs
          simp only [sm_step]
          have e0 : (0 : Int32).toInt = 0 := rfl
          rw [if_pos ⟨by rw [Int32.lt_iff_toInt_lt]; omega, by rw [Int32.lt_iff_toInt_lt]; omega, ab_cats_le hr hk.2.2.2.2⟩]
          exact ab_to_same ⟨hA.1, hr, hA.2.2⟩ hS
        · cases hs
    · cases hs
  | _ => exact absurd hs (by simp [ab_step])
end ABH
/-! THE CHECK OF A METHOD -/
/-- a contract: method, arguments, fields at the start, ends (answer, fields), what may be written, depth of calls -/
abbrev ab_C : Type := Nat × List ab_V × ab_HC × List (ab_V × ab_HC) × List (Nat × Nat) × Nat
/-- a rank: (0, _, c) a constant, (1, j, _) local j goes up, (2, j, _) it goes down, (3, c, _) field c goes up; the first that changes counts -/
abbrev ab_R : Type := List (Nat × Nat × Int)
/-- a loop's head: place, locals, fields, rank -/
abbrev ab_Hd : Type := Nat × List ab_V × ab_HC × ab_R
/-- a caller that waits -/
abbrev ab_F : Type := Nat × Nat × List ab_V × List ab_V
def ab_strip (a : ab_V) : ab_V := (a.1, a.2.1, a.2.2.1, [])
/-- a value lies within bounds -/
def ab_nv (a : ab_V) (v : Option Value) : Prop := ab_okV [] [] [] [] (ab_strip a) v
def ab_leV (a b : ab_V) : Bool := decide (b.1 = 0) || (decide (a.1 = b.1) && (if b.1 = 3 then decide (a.2.1 = b.2.1) else decide (b.2.1 ≤ a.2.1 ∧ a.2.2.1 ≤ b.2.2.1)))
def ab_leL : List ab_V → List ab_V → Bool
  | [], [] => true
  | a :: r, b :: s => ab_leV a b && ab_leL r s
  | _, _ => false
def ab_dflt (sk : ab_K) (c : Nat) : Option ab_V := match sk[c / 128]? with
  | some (some (.inr (_, fl))) => match fl[c % 128]? with
    | some (t, lo, hi) => if t = 0 then some (1, lo, hi, []) else if t = 1 then some (2, lo, hi, []) else none
    | none => none
  | _ => none
def ab_leH (sk : ab_K) (hc pre : ab_HC) : Bool := pre.all (fun e => match ab_hget hc e.1 with
  | some a => ab_leV a e.2
  | none => match ab_dflt sk e.1 with
    | some a => ab_leV a e.2
    | none => false)
def ab_nvs : List ab_V → List Value → Prop
  | [], [] => True
  | a :: r, v :: s => ab_nv a (some v) ∧ ab_nvs r s
  | _, _ => False
def ab_nvH (hc : ab_HC) (h : sm_H) : Prop := ∀ e ∈ hc, ab_nv e.2 (ab_fld h e.1)
/-- an answer of a method of kind k -/
def ab_res (k : Nat) (a : ab_V) (v : Option Value) : Prop := if k = 0 then v = none else (a.1 ≠ 0 → ab_nv a v) ∧ v ≠ none
def ab_Post (sk : ab_K) (wr : List (Nat × Nat)) (posts : List (ab_V × ab_HC)) (k : Nat) (hS : sm_H) (v : Option Value) (h' : sm_H) : Prop := ab_Sh sk h' ∧ ab_Fr wr hS h' ∧ ∃ p ∈ posts, ab_res k p.1 v ∧ ab_nvH p.2 h'
def ab_Ok (P : Nat → Option sm_M) (sk : ab_K) (c : ab_C) : Prop := ∀ (h : sm_H) (as : List Value) (M : sm_M), P c.1 = some M → ab_Sh sk h → ab_nvs c.2.1 as → ab_nvH c.2.2.1 h → ab_Ends P c.2.2.2.2.2 c.1 0 (sm_entry M.1 as) [] h (ab_Post sk c.2.2.2.2.1 c.2.2.2.1 M.2.1 h)
/-- .. that throws, or may throw, one of the classes thr -/
def ab_PostT (sk : ab_K) (wr : List (Nat × Nat)) (thr : List Nat) (hS : sm_H) (x : Nat) (h' : sm_H) : Prop := x ∈ thr ∧ ∃ h1, h' = h1 ++ [sm_exc x] ∧ ab_Sh sk h1 ∧ ab_Fr wr hS h1
def ab_OkX (P : Nat → Option sm_M) (sk : ab_K) (thr : List Nat) (c : ab_C) : Prop := ∀ (h : sm_H) (as : List Value) (M : sm_M), P c.1 = some M → ab_Sh sk h → ab_nvs c.2.1 as → ab_nvH c.2.2.1 h → ab_EndsX P (ab_PostT sk c.2.2.2.2.1 thr h) c.2.2.2.2.2 c.1 0 (sm_entry M.1 as) [] h (ab_Post sk c.2.2.2.2.1 c.2.2.2.1 M.2.1 h)
def ab_back (rv : Option ab_V) (r : List ab_V) : List ab_V := match rv with
  | some a => a :: r
  | none => r
def ab_retv (q : sm_I) (k : Nat) (A : ab_A) : Option (Option ab_V) := match q.1, A.2.1 with
  | .ireturn, [v] => if v.1 = 1 ∧ (k = 1 ∨ ((k = 4 ∨ k = 6) ∧ 0 ≤ v.2.1 ∧ v.2.2.1 ≤ 1) ∨ (k = 5 ∧ 0 ≤ v.2.1 ∧ v.2.2.1 ≤ 65535)) then some (some v) else none
  | .lreturn, [v] => if v.1 = 2 ∧ k = 2 then some (some v) else none
  | .areturn, [v] => if v.1 = 3 ∧ k = 3 then some (some v) else none
  | .return_, [] => if k = 0 then some none else none
  | _, _ => none
def ab_args (n : Nat) (st : List ab_V) : Option (List ab_V × List ab_V) := if n ≤ st.length then some ((st.take n).reverse, st.drop n) else none
def ab_callv (sk : ab_K) (q : sm_I) (A : ab_A) : Option (Nat × List ab_V × List ab_V) := match q.1, q.2.2 with
  | .invokestatic _, [_, m, n] => match ab_args n A.2.1 with
    | some (as, r) => some (m, as, r)
    | none => none
  | .invokevirtual _, _ :: n :: ps => match ab_args (n + 1) A.2.1 with
    | some (a :: as, r) => if a.1 = 3 then (match sk[a.2.1.toNat]? with
      | some (some (.inr (ci, _))) => match sm_pick ci ps with
        | some m => some (m, a :: as, r)
        | none => none
      | _ => none) else none
    | _ => none
  | _, _ => none
def ab_slots : List ab_V → List ab_V
  | [] => []
  | a :: as => if a.1 = 2 then a :: ab_unk :: ab_slots as else a :: ab_slots as
def ab_entry (n : Nat) (as : List ab_V) : List ab_V := ab_slots as ++ List.replicate (n - (ab_slots as).length) ab_unk
/-- ranges within ranges -/
def ab_sub_wr (wr wr' : List (Nat × Nat)) : Bool := wr.all (fun r => wr'.any (fun s => decide (s.1 ≤ r.1 ∧ r.2 ≤ s.2)))
def ab_find (sk : ab_K) (d m : Nat) (as : List ab_V) (hc : ab_HC) (wr : List (Nat × Nat)) : List ab_C → Option ab_C
  | [] => none
  | c :: r => if c.1 = m ∧ ab_leL as c.2.1 = true ∧ ab_leH sk hc c.2.2.1 = true ∧ c.2.2.2.2.2 ≤ d ∧ ab_sub_wr c.2.2.2.2.1 wr = true then some c else ab_find sk d m as hc wr r
def ab_newH (wr : List (Nat × Nat)) (post hc : ab_HC) : ab_HC := post.map (fun e => (e.1, ab_strip e.2)) ++ ab_keepH (ab_nw wr) (hc.filter (fun e => !(ab_in wr e.1)))
def ab_off (k j : Nat) : List ab_T → Option Int
  | [] => none
  | t :: r => if t.1 = k ∧ t.2.1 = j then some t.2.2 else ab_off k j r
def ab_rk : Nat → ab_R → ab_R → ab_A → Bool
  | 0, _, _, _ => false
  | n + 1, src, tgt, A => match src, tgt with
    | [], _ :: _ => true
    | (k, j, c) :: r, (k', j', c') :: r' =>
      if k = 0 ∧ k' = 0 then (if 0 ≤ c ∧ c < c' ∧ c' ≤ 1000 then true else if c = c' then ab_rk n r r' A else false)
      else if k = k' ∧ j = j' ∧ (k = 1 ∨ k = 2) then (match A.1[j]? with
        | some v => if v.1 = 1 then (match ab_off 2 j v.2.2.2 with
          | some o => if (k = 1 ∧ 0 < o) ∨ (k = 2 ∧ o < 0) then true else if o = 0 then ab_rk n r r' A else false
          | none => false) else false
        | none => false)
      else if k = 3 ∧ k' = 3 ∧ j = j' then (match ab_hget A.2.2 j with
        | some v => if v.1 = 1 then (match ab_off 3 j v.2.2.2 with
          | some o => if 0 < o then true else if o = 0 then ab_rk n r r' A else false
          | none => false) else false
        | none => false)
      else false
    | _, _ => false
def ab_leR (k : Nat) (rv : Option ab_V) (a : ab_V) : Bool := if k = 0 then true else (match rv with
  | some v => ab_leV v a
  | none => false)
def ab_exp (P : Nat → Option sm_M) (sk : ab_K) (wr : List (Nat × Nat)) (env : List ab_C) (heads : List ab_Hd) (posts : List (ab_V × ab_HC)) (thr : List Nat) (rk : Option ab_R) : Nat → Bool → Nat → Nat → Nat → ab_A → List ab_F → Bool
  | 0, _, _, _, _, _, _ => false
  | n + 1, fresh, d, m, pc, A, F =>
    if (F.isEmpty && !fresh && heads.any (fun e => e.1 == pc)) = true then heads.any (fun e => e.1 == pc && A.2.1.isEmpty && ab_leL A.1 e.2.1 && ab_leH sk A.2.2 e.2.2.1 && (match rk with
      | none => true
      | some r => ab_rk 8 r e.2.2.2 A))
    else match P m with
    | none => false
    | some (_, k, tab) => match tab[pc]? with
      | some (some q) => match ab_step sk wr q pc A with
        | some outs => outs.all (fun o => ab_exp P sk wr env heads posts thr rk n false d m o.1 o.2 F)
        | none => match ab_retv q k A with
          | some rv => match F with
            | [] => posts.any (fun p => ab_leR k rv p.1 && ab_leH sk A.2.2 p.2)
            | f :: F' => ab_exp P sk wr env heads posts thr rk n false (d + 1) f.1 (f.2.1 + 3) (f.2.2.1.map (ab_keep ab_n1), ab_back (rv.map (ab_keep ab_n0)) (f.2.2.2.map (ab_keep ab_n1)), ab_keepH ab_n0 A.2.2) F'
          | none => match ab_callv sk q A with
            | some (m', as, r) => match d, P m' with
              | d' + 1, some (nl, k', _) => as.all (fun a => !(a.1 == 0)) && (decide ((ab_slots as).length ≤ nl) && (ab_cats r && (match ab_find sk d' m' as A.2.2 wr env with
                | some c => c.2.2.2.1.all (fun p => (k' == 0 || !(p.1.1 == 0)) && ab_exp P sk wr env heads posts thr rk n false (d' + 1) m (pc + 3) (A.1.map (ab_keep (ab_nw c.2.2.2.2.1)), ab_back (if k' = 0 then none else some (ab_strip p.1)) (r.map (ab_keep (ab_nw c.2.2.2.2.1))), ab_newH c.2.2.2.2.1 p.2 A.2.2) F)
                | none => ab_exp P sk wr env heads posts thr rk n false d' m' 0 (ab_entry nl (as.map (ab_keep ab_n0)), [], ab_keepH ab_n0 A.2.2) ((m, pc, A.1, r) :: F))))
              | _, _ => false
            | none => match sm_thr q with
              | some x => F.isEmpty && (A.2.1.isEmpty && decide (x ∈ thr))
              | none => false
      | _ => false
/-- a head's state, as a start: what its numbers are there -/
def ab_headl : Nat → List ab_V → List ab_V
  | _, [] => []
  | j, a :: r => (if a.1 = 1 then (1, a.2.1, a.2.2.1, [(2, j, 0)]) else ab_strip a) :: ab_headl (j + 1) r
def ab_headh (hc : ab_HC) : ab_HC := hc.map (fun e => (e.1, if e.2.1 = 1 then (1, e.2.2.1, e.2.2.2.1, [(3, e.1, 0)]) else ab_strip e.2))
def ab_good (P : Nat → Option sm_M) (sk : ab_K) (env : List ab_C) (heads : List ab_Hd) (thr : List Nat) (fuel : Nat) (c : ab_C) : Bool := match P c.1 with
  | none => false
  | some (nl, _, _) => c.2.1.all (fun a => !(a.1 == 0)) && decide ((ab_slots c.2.1).length ≤ nl) &&
    ab_exp P sk c.2.2.2.2.1 env heads c.2.2.2.1 thr none fuel false c.2.2.2.2.2 c.1 0 (ab_entry nl (c.2.1.map ab_strip), [], c.2.2.1.map (fun e => (e.1, ab_strip e.2))) [] &&
    heads.all (fun e => decide (e.2.1.length = nl) && ab_exp P sk c.2.2.2.2.1 env heads c.2.2.2.1 thr (some e.2.2.2) fuel true c.2.2.2.2.2 c.1 e.1 (ab_headl 0 e.2.1, [], ab_headh e.2.2.1) [])
/-! a rank falls -/
def ab_iv (v : Option Value) : Int := match v with
  | some (.int y) => y.toInt
  | _ => 0
def ab_val1 (ls : sm_L) (h : sm_H) (e : Nat × Nat × Int) : Int := if e.1 = 0 then e.2.2 else if e.1 = 1 then ab_iv (sm_lget ls e.2.1) else if e.1 = 2 then -(ab_iv (sm_lget ls e.2.1)) else ab_iv (ab_fld h e.2.1)
def ab_vals (r : ab_R) (ls : sm_L) (h : sm_H) : List Int := r.map (ab_val1 ls h)
def ab_w (v : Int) : Nat := min 8589934591 (4294967296 - v).toNat
def ab_mu : Nat → List Int → Nat
  | 0, _ => 0
  | n + 1, [] => 8589934592 * 17179869184 ^ n
  | n + 1, v :: vs => ab_w v * 17179869184 ^ n + ab_mu n vs
theorem ab_mu_lt : ∀ (n : Nat) (l : List Int), ab_mu n l < 17179869184 ^ n := by
  intro n
  induction n with
  | zero => intro l; exact Nat.one_pos
  | succ n ih =>
    intro l
    have hp : 0 < 17179869184 ^ n := Nat.pow_pos (by decide)
    have e : 17179869184 ^ (n + 1) = 17179869184 * 17179869184 ^ n := by rw [Nat.pow_succ, Nat.mul_comm]
    rw [e]
    cases l with
    | nil =>
      show 8589934592 * 17179869184 ^ n < _
      exact Nat.mul_lt_mul_of_pos_right (by decide) hp
    | cons v vs =>
      show ab_w v * 17179869184 ^ n + ab_mu n vs < _
      have h1 := ih vs
      have h2 : ab_w v ≤ 8589934591 := Nat.min_le_left _ _
      have h3 : ab_w v * 17179869184 ^ n ≤ 8589934591 * 17179869184 ^ n := Nat.mul_le_mul_right _ h2
      generalize 17179869184 ^ n = X at *
      omega
theorem ab_mu_step {n : Nat} {a b : Nat} {l l' : List Int} (h : a < b) : a * 17179869184 ^ n + ab_mu n l < b * 17179869184 ^ n + ab_mu n l' := by
  have h1 := ab_mu_lt n l
  have h3 : (a + 1) * 17179869184 ^ n ≤ b * 17179869184 ^ n := Nat.mul_le_mul_right _ h
  rw [Nat.add_mul, Nat.one_mul] at h3
  generalize 17179869184 ^ n = X at *
  omega
theorem ab_w_lt {v v' : Int} (h1 : -2147483648 ≤ v) (h2 : v < v') (h3 : v' ≤ 2147483648) : ab_w v' < ab_w v := by
  unfold ab_w
  omega
theorem ab_iv_bd (v : Option Value) : -2147483648 ≤ ab_iv v ∧ ab_iv v ≤ 2147483647 := by
  unfold ab_iv
  split
  · next y => exact ⟨y.le_toInt, Int.le_of_lt_add_one y.toInt_lt⟩
  · exact ⟨by decide, by decide⟩
theorem ab_off_mem {k j : Nat} {o : Int} : ∀ ts : List ab_T, ab_off k j ts = some o → (k, j, o) ∈ ts := by
  intro ts
  induction ts with
  | nil => intro h; simp [ab_off] at h
  | cons t r ih =>
    intro h
    simp only [ab_off] at h
    split at h
    · next he =>
      cases h
      obtain ⟨a, b, c⟩ := t
      obtain ⟨rfl, rfl⟩ := he
      exact List.mem_cons_self
    · exact List.mem_cons_of_mem _ (ih h)
section ABK
variable {L0 ls ls' : sm_L} {h0 h h' : sm_H} {sk : ab_K} {wr wr' : List (Nat × Nat)} {st : List Value} {A : ab_A}
theorem ab_rk_ok : ∀ (n : Nat) (src tgt : ab_R), ab_rk n src tgt A = true → ab_ok L0 h0 A ls st h → ab_mu n (ab_vals tgt ls h) < ab_mu n (ab_vals src L0 h0) := by
  intro n
  induction n with
  | zero => intro src tgt hr; simp [ab_rk] at hr
  | succ n ih =>
    intro src tgt hr hA
    rcases src with _ | ⟨⟨k, j, c⟩, r⟩
    · rcases tgt with _ | ⟨e, r'⟩
      · simp [ab_rk] at hr
      · show ab_w _ * 17179869184 ^ n + ab_mu n _ < 8589934592 * 17179869184 ^ n
        have h1 := ab_mu_lt n (ab_vals r' ls h)
        have h2 : ab_w (ab_val1 ls h e) ≤ 8589934591 := Nat.min_le_left _ _
        have h3 : ab_w (ab_val1 ls h e) * 17179869184 ^ n ≤ 8589934591 * 17179869184 ^ n := Nat.mul_le_mul_right _ h2
        unfold ab_vals at h1
        generalize 17179869184 ^ n = X at *
        omega
    · rcases tgt with _ | ⟨⟨k', j', c'⟩, r'⟩
      · simp [ab_rk] at hr
      · show ab_w (ab_val1 ls h (k', j', c')) * 17179869184 ^ n + ab_mu n (ab_vals r' ls h) < ab_w (ab_val1 L0 h0 (k, j, c)) * 17179869184 ^ n + ab_mu n (ab_vals r L0 h0)
        have same : ab_val1 ls h (k', j', c') = ab_val1 L0 h0 (k, j, c) → ab_rk n r r' A = true → ab_w (ab_val1 ls h (k', j', c')) * 17179869184 ^ n + ab_mu n (ab_vals r' ls h) < ab_w (ab_val1 L0 h0 (k, j, c)) * 17179869184 ^ n + ab_mu n (ab_vals r L0 h0) := fun e hh => by
          rw [e]
          exact Nat.add_lt_add_left (ih r r' hh hA) _
        simp only [ab_rk] at hr
        split at hr
        · next hk =>
          obtain ⟨rfl, rfl⟩ := hk
          split at hr
          · next hc => exact ab_mu_step (ab_w_lt (by show _ ≤ c; omega) (by show c < c'; omega) (by show c' ≤ _; omega))
          · split at hr
            · next hc => exact same (by show c' = c; exact hc.symm) hr
            · cases hr
        · split at hr
          · next hk =>
            obtain ⟨rfl, rfl, hk⟩ := hk
            split at hr
            · next v hv =>
              split at hr
              · next kv =>
                split at hr
                · next o ho =>
                  obtain ⟨x, ex, -, -, ht⟩ := ab_kd1 (hA.1.2 j v hv) kv
                  obtain ⟨y, ey, exy⟩ := (ht _ (ab_off_mem _ ho)).2.2.1 rfl
                  have bx := ab_iv_bd (sm_lget ls j)
                  have by' := ab_iv_bd (sm_lget L0 j)
                  have e1 : ab_iv (sm_lget ls j) = x.toInt := by rw [ex]; rfl
                  have e2 : ab_iv (sm_lget L0 j) = y.toInt := by
                    have : sm_lget L0 j = some (.int y) := ey
                    rw [this]; rfl
                  dsimp only at exy
                  rcases hk with rfl | rfl
                  · have f1 : ab_val1 ls h (1, j, c') = ab_iv (sm_lget ls j) := rfl
                    have f2 : ab_val1 L0 h0 (1, j, c) = ab_iv (sm_lget L0 j) := rfl
                    split at hr
                    · next ho2 => exact ab_mu_step (ab_w_lt (by rw [f2]; omega) (by rw [f1, f2]; omega) (by rw [f1]; omega))
                    · split at hr
                      · next ho3 => exact same (by rw [f1, f2]; omega) hr
                      · cases hr
                  · have f1 : ab_val1 ls h (2, j, c') = -ab_iv (sm_lget ls j) := rfl
                    have f2 : ab_val1 L0 h0 (2, j, c) = -ab_iv (sm_lget L0 j) := rfl
                    split at hr
                    · next ho2 => exact ab_mu_step (ab_w_lt (by rw [f2]; omega) (by rw [f1, f2]; omega) (by rw [f1]; omega))
                    · split at hr
                      · next ho3 => exact same (by rw [f1, f2]; omega) hr
                      · cases hr
                · cases hr
              · cases hr
            · cases hr
          · split at hr
            · next hk =>
              obtain ⟨rfl, rfl, rfl⟩ := hk
              split at hr
              · next v hv =>
                split at hr
                · next kv =>
                  split at hr
                  · next o ho =>
                    obtain ⟨x, ex, -, -, ht⟩ := ab_kd1 (hA.2.2 _ (ab_hget_mem _ _ _ hv)) kv
                    obtain ⟨y, ey, exy⟩ := (ht _ (ab_off_mem _ ho)).2.2.2 rfl
                    have bx := ab_iv_bd (ab_fld h j)
                    have by' := ab_iv_bd (ab_fld h0 j)
                    have e1 : ab_iv (ab_fld h j) = x.toInt := by
                      have : ab_fld h j = some (.int x) := ex
                      rw [this]; rfl
                    have e2 : ab_iv (ab_fld h0 j) = y.toInt := by
                      have : ab_fld h0 j = some (.int y) := ey
                      rw [this]; rfl
                    dsimp only at exy
                    have f1 : ab_val1 ls h (3, j, c') = ab_iv (ab_fld h j) := rfl
                    have f2 : ab_val1 L0 h0 (3, j, c) = ab_iv (ab_fld h0 j) := rfl
                    split at hr
                    · next ho2 => exact ab_mu_step (ab_w_lt (by rw [f2]; omega) (by rw [f1, f2]; omega) (by rw [f1]; omega))
                    · split at hr
                      · next ho3 => exact same (by rw [f1, f2]; omega) hr
                      · cases hr
                  · cases hr
                · cases hr
              · cases hr
            · cases hr
/-! bounds within bounds -/
theorem ab_strip_ok {L0' : sm_L} {h0' : sm_H} {a : ab_V} {v : Option Value} (hv : ab_okV ls h L0 h0 a v) : ab_okV ls' h' L0' h0' (ab_strip a) v := by
  obtain ⟨k, lo, hi, ts⟩ := a
  rcases k with _ | _ | _ | _ | k
  · trivial
  · obtain ⟨x, e, h1, h2, h3⟩ := hv
    exact ⟨x, e, h1, h2, fun t ht => absurd ht List.not_mem_nil⟩
  · exact hv
  · exact hv
  · exact (show False from hv).elim
theorem ab_leV_ok {a b : ab_V} {v : Option Value} (hv : ab_okV ls h L0 h0 a v) (hl : ab_leV a b = true) : ab_nv b v := by
  obtain ⟨kb, lb, hb, tb⟩ := b
  obtain ⟨ka, la, ha, ta⟩ := a
  simp only [ab_leV, Bool.or_eq_true, Bool.and_eq_true, decide_eq_true_eq] at hl
  rcases hl with rfl | ⟨rfl, hl⟩
  · trivial
  · rcases ka with _ | _ | _ | _ | k
    · trivial
    · rw [if_neg (by decide), decide_eq_true_eq] at hl
      obtain ⟨x, e, h1, h2, h3⟩ := hv
      exact ⟨x, e, Int.le_trans hl.1 h1, Int.le_trans h2 hl.2, fun t ht => absurd ht List.not_mem_nil⟩
    · rw [if_neg (by decide), decide_eq_true_eq] at hl
      obtain ⟨x, e, h1, h2⟩ := hv
      exact ⟨x, e, Int.le_trans hl.1 h1, Int.le_trans h2 hl.2⟩
    · rw [if_pos rfl, decide_eq_true_eq] at hl
      have e : v = some (.ref la.toNat) := hv
      show v = some (.ref lb.toNat)
      rw [e]
      rw [hl]
    · exact (show False from hv).elim
theorem ab_nv_ok {a : ab_V} {v : Option Value} (hv : ab_nv a v) : ab_okV ls h L0 h0 (ab_strip a) v := ab_strip_ok (a := ab_strip a) hv
theorem ab_leL_at : ∀ (al bl : List ab_V), ab_leL al bl = true → al.length = bl.length ∧ ∀ (j : Nat) (b : ab_V), bl[j]? = some b → ∃ a, al[j]? = some a ∧ ab_leV a b = true := by
  intro al
  induction al with
  | nil => intro bl hl; cases bl with
    | nil => exact ⟨rfl, fun j b hj => by simp at hj⟩
    | cons b s => simp [ab_leL] at hl
  | cons a r ih => intro bl hl; cases bl with
    | nil => simp [ab_leL] at hl
    | cons b s =>
      simp only [ab_leL, Bool.and_eq_true] at hl
      obtain ⟨h1, h2⟩ := ih s hl.2
      refine ⟨by simp [h1], fun j b' hj => ?_⟩
      cases j with
      | zero => simp at hj; subst hj; exact ⟨a, rfl, hl.1⟩
      | succ j => exact h2 j b' (by simpa using hj)
theorem ab_leL_st : ∀ (as bs : List ab_V) (st : List Value), ab_okSt ls h L0 h0 as st → ab_leL as bs = true → ab_nvs bs st := by
  intro as
  induction as with
  | nil => intro bs st hs hl; cases bs with
    | nil => cases st with
      | nil => trivial
      | cons v s => exact (show False from hs).elim
    | cons b s => simp [ab_leL] at hl
  | cons a r ih => intro bs st hs hl; cases bs with
    | nil => simp [ab_leL] at hl
    | cons b s => cases st with
      | nil => exact (show False from hs).elim
      | cons v t =>
        simp only [ab_leL, Bool.and_eq_true] at hl
        exact ⟨ab_leV_ok hs.1 hl.1, ih s t hs.2 hl.2⟩
theorem ab_dflt_ok {c : Nat} {a : ab_V} (hS : ab_Sh sk h) (hd : ab_dflt sk c = some a) : ab_okV ls h L0 h0 a (ab_fld h c) := by
  unfold ab_dflt at hd
  split at hd
  · next ci fl hk =>
    split at hd
    · next t lo hi hf =>
      obtain ⟨fs, e1, e2, e3⟩ := hS _ _ hk
      have hlt : c % 128 < fs.length := by rw [e2]; exact (List.getElem?_eq_some_iff.mp hf).1
      have hv : fs[c % 128]? = some fs[c % 128] := List.getElem?_eq_getElem hlt
      have hfv := e3 _ _ _ hf hv
      have hfld : ab_fld h c = some fs[c % 128] := by
        unfold ab_fld
        rw [e1]
        exact hv
      rw [hfld]
      split at hd
      · next ht =>
        subst ht
        cases hd
        obtain ⟨x, ex, b1, b2⟩ := hfv
        rw [ex]
        exact ab_mk1 b1 b2 (fun _ ht => absurd ht List.not_mem_nil)
      · split at hd
        · next ht =>
          subst ht
          cases hd
          obtain ⟨x, ex, b1, b2⟩ := hfv
          rw [ex]
          exact ab_mk2 b1 b2
        · cases hd
    · cases hd
  · cases hd
theorem ab_leH_ok {hc pre : ab_HC} (hH : ab_okH ls h L0 h0 hc) (hS : ab_Sh sk h) (hl : ab_leH sk hc pre = true) : ab_nvH pre h := by
  intro e he
  have := List.all_eq_true.mp hl e he
  split at this
  · next a ha =>
    have hx := hH _ (ab_hget_mem _ _ _ ha)
    exact ab_leV_ok hx this
  · split at this
    · next a ha =>
      have hx := ab_dflt_ok (ls := ls) (L0 := L0) (h0 := h0) hS ha
      exact ab_leV_ok hx this
    · cases this
/-! fields that are not written -/
theorem ab_Fr_fld {c : Nat} {v : Value} (hF : ab_Fr wr h h') (hn : ab_in wr c = false) (hv : ab_fld h c = some v) : ab_fld h' c = some v := by
  unfold ab_fld at hv ⊢
  split at hv
  · next ci fs hk =>
    obtain ⟨fs', e1, e2⟩ := hF.2.2 _ _ hk
    rw [e1]
    dsimp only
    have ec : c / 128 * 128 + c % 128 = c := by omega
    rw [e2 (c % 128) (by rw [ec]; exact hn)]
    exact hv
  · cases hv
theorem ab_nw_mv (hF : ab_Fr wr h h') : ∀ t z, ab_nw wr t = true → ab_tg ls h L0 h0 t z → ab_tg ls h' L0 h0 t z := fun t z hn ht => ⟨ht.1, fun e => by
  obtain ⟨y, h1, h2⟩ := ht.2.1 e
  refine ⟨y, ab_Fr_fld hF ?_ h1, h2⟩
  unfold ab_nw at hn
  rw [e] at hn
  simpa using hn, ht.2.2⟩
theorem ab_newH_ok {post hc : ab_HC} (hH : ab_okH ls h L0 h0 hc) (hF : ab_Fr wr h h') (hp : ab_nvH post h') : ab_okH ls h' L0 h0 (ab_newH wr post hc) := by
  intro e he
  rcases List.mem_append.mp he with he | he
  · obtain ⟨e', m, rfl⟩ := List.mem_map.mp he
    exact ab_nv_ok (hp e' m)
  · obtain ⟨e', m, rfl⟩ := List.mem_map.mp he
    obtain ⟨m1, m2⟩ := List.mem_filter.mp m
    have hn : ab_in wr e'.1 = false := by simpa using m2
    have hv := hH e' m1
    show ab_okV ls h' L0 h0 (ab_keep (ab_nw wr) e'.2) (ab_fld h' e'.1)
    cases hf : ab_fld h e'.1 with
    | some v =>
      rw [ab_Fr_fld hF hn hf]
      rw [hf] at hv
      exact ab_keep_ok hv (ab_nw_mv hF)
    | none =>
      rw [hf] at hv
      obtain ⟨c, k, lo, hi, ts⟩ := e'
      rcases k with _ | _ | _ | _ | k
      · trivial
      · obtain ⟨x, e, -⟩ := ab_kd1 hv rfl; cases e
      · obtain ⟨x, e, -⟩ := ab_kd2 hv rfl; cases e
      · have e := ab_kd3 hv rfl; cases e
      · exact (show False from hv).elim
theorem ab_swr_ok {c : Nat} (hs : ab_sub_wr wr wr' = true) (hc : ab_in wr c = true) : ab_in wr' c = true := by
  obtain ⟨r, m, hr⟩ := List.any_eq_true.mp hc
  obtain ⟨s, ms, hs2⟩ := List.any_eq_true.mp (List.all_eq_true.mp hs r m)
  simp only [decide_eq_true_eq] at hr hs2
  exact List.any_eq_true.mpr ⟨s, ms, by simp only [decide_eq_true_eq]; omega⟩
/-! stacks, piece by piece -/
theorem ab_okSt_at : ∀ (as : List ab_V) (st : List Value), ab_okSt ls h L0 h0 as st ↔ as.length = st.length ∧ ∀ (i : Nat) (a : ab_V) (v : Value), as[i]? = some a → st[i]? = some v → ab_okV ls h L0 h0 a (some v) := by
  intro as
  induction as with
  | nil => intro st; cases st with
    | nil => exact ⟨fun _ => ⟨rfl, fun i a v hi => by simp at hi⟩, fun _ => trivial⟩
    | cons v s => exact ⟨fun hs => (show False from hs).elim, fun hs => by simp at hs⟩
  | cons a r ih => intro st; cases st with
    | nil => exact ⟨fun hs => (show False from hs).elim, fun hs => by simp at hs⟩
    | cons v s =>
      constructor
      · intro hs
        obtain ⟨h1, h2⟩ := (ih s).mp hs.2
        refine ⟨by simp [h1], fun i b w hb hw => ?_⟩
        cases i with
        | zero => simp at hb hw; subst hb; subst hw; exact hs.1
        | succ i => exact h2 i b w (by simpa using hb) (by simpa using hw)
      · intro hs
        exact ⟨hs.2 0 a v rfl rfl, (ih s).mpr ⟨by simpa using hs.1, fun i b w hb hw => hs.2 (i + 1) b w (by simpa using hb) (by simpa using hw)⟩⟩
theorem ab_args_ok {n : Nat} {as ar r : List ab_V} (hs : ab_okSt ls h L0 h0 as st) (ha : ab_args n as = some (ar, r)) : ∃ vs s, sm_args n st = some (vs, s) ∧ ab_okSt ls h L0 h0 ar vs ∧ ab_okSt ls h L0 h0 r s := by
  unfold ab_args at ha
  split at ha
  · next hn =>
    cases ha
    obtain ⟨h1, h2⟩ := (ab_okSt_at _ _).mp hs
    refine ⟨(st.take n).reverse, st.drop n, if_pos (by omega), (ab_okSt_at _ _).mpr ⟨by simp [h1], fun i a v hi hv => ?_⟩, (ab_okSt_at _ _).mpr ⟨by simp [h1], fun i a v hi hv => ?_⟩⟩
    · have l1 : i < n := by
        have := (List.getElem?_eq_some_iff.mp hi).1
        simp at this
        omega
      rw [List.getElem?_reverse (by simp; omega)] at hi
      rw [List.getElem?_reverse (by simp; omega)] at hv
      rw [List.length_take] at hi hv
      rw [List.getElem?_take, if_pos (by omega)] at hi
      rw [List.getElem?_take, if_pos (by omega)] at hv
      rw [← h1] at hv
      exact h2 _ a v hi hv
    · rw [List.getElem?_drop] at hi hv
      exact h2 _ a v hi hv
  · cases ha
theorem ab_slots_ok : ∀ (as : List ab_V) (vs : List Value), ab_okSt ls h L0 h0 as vs → as.all (fun a => !(a.1 == 0)) = true → (ab_slots as).length = (sm_slots vs).length ∧ ∀ (j : Nat) (a : ab_V), (ab_slots as)[j]? = some a → a = ab_unk ∨ ∃ v, (sm_slots vs)[j]? = some (some v) ∧ ab_okV ls h L0 h0 a (some v) := by
  intro as
  induction as with
  | nil => intro vs hs _; cases vs with
    | nil => exact ⟨rfl, fun j a hj => by simp [ab_slots] at hj⟩
    | cons v s => exact (show False from hs).elim
  | cons a r ih => intro vs hs hn; cases vs with
    | nil => exact (show False from hs).elim
    | cons v s =>
      rw [List.all_cons, Bool.and_eq_true] at hn
      obtain ⟨h1, h2⟩ := ih s hs.2 hn.2
      have hv := hs.1
      by_cases hk : a.1 = 2
      · obtain ⟨x, e, -⟩ := ab_kd2 hv hk
        cases e
        have e1 : ab_slots (a :: r) = a :: ab_unk :: ab_slots r := by simp [ab_slots, hk]
        have e2 : sm_slots (.long x :: s) = some (.long x) :: none :: sm_slots s := rfl
        rw [e1, e2]
        refine ⟨by simp [h1], fun j b hj => ?_⟩
        match j, hj with
        | 0, hj => simp at hj; subst hj; exact Or.inr ⟨_, rfl, hv⟩
        | 1, hj => simp at hj; exact Or.inl hj.symm
        | j + 2, hj => exact h2 j b hj
      · have e1 : ab_slots (a :: r) = a :: ab_slots r := by simp [ab_slots, hk]
        have e2 : sm_slots (v :: s) = some v :: sm_slots s := by
          have hc : v.category ≠ 2 := by
            obtain ⟨k, lo, hi, ts⟩ := a
            rcases k with _ | _ | _ | _ | k
            · simp at hn
            · obtain ⟨x, e, -⟩ := ab_kd1 hv rfl
              cases e
              exact (by decide : (1 : Nat) ≠ 2)
            · exact absurd rfl hk
            · have e := ab_kd3 hv rfl
              cases e
              exact (by decide : (1 : Nat) ≠ 2)
            · exact (show False from hv).elim
          simp [sm_slots, hc]
        rw [e1, e2]
        refine ⟨by simp [h1], fun j b hj => ?_⟩
        match j, hj with
        | 0, hj => simp at hj; subst hj; exact Or.inr ⟨_, rfl, hv⟩
        | j + 1, hj => exact h2 j b hj
theorem ab_entry_ok {n : Nat} {as : List ab_V} {vs : List Value} (hs : ab_okSt (sm_entry n vs) h L0 h0 as vs) (hn : as.all (fun a => !(a.1 == 0)) = true) (hl : (ab_slots as).length ≤ n) : (sm_slots vs).length ≤ n ∧ ab_okL (sm_entry n vs) h L0 h0 (ab_entry n as) := by
  obtain ⟨h1, h2⟩ := ab_slots_ok as vs hs hn
  refine ⟨by omega, by simp [ab_entry, sm_entry, h1], fun j a hj => ?_⟩
  unfold ab_entry at hj
  by_cases hjl : j < (ab_slots as).length
  · rw [List.getElem?_append_left hjl] at hj
    rcases h2 j a hj with rfl | ⟨v, e, hv⟩
    · trivial
    · have : sm_lget (sm_entry n vs) j = some v := by
        unfold sm_lget sm_entry
        rw [List.getElem?_append_left (by omega), e]
      rw [this]
      exact hv
  · rw [List.getElem?_append_right (by omega)] at hj
    have := List.eq_of_mem_replicate (List.mem_of_getElem? hj)
    subst this
    trivial
/-! returns and calls -/
theorem ab_retv_ok {q : sm_I} {k pc : Nat} {rv : Option ab_V} (hr : ab_retv q k A = some rv) (hA : ab_ok L0 h0 A ls st h) : ∃ v, sm_step q pc ls st h = some (.inr (.inl v)) ∧ sm_okret k v = true ∧ ((k = 0 ∧ rv = none ∧ v = none) ∨ (k ≠ 0 ∧ ∃ a w, rv = some a ∧ v = some w ∧ a.1 ≠ 0 ∧ ab_okV ls h L0 h0 a (some w))) := by
  obtain ⟨i, len, rs⟩ := q
  obtain ⟨al, as, hc⟩ := A
  unfold ab_retv at hr
  dsimp only at hr
  split at hr
  · next v0 =>
    split at hr
    · next hk =>
      cases hr
      obtain ⟨v, s, rfl, hv, hs⟩ := ab_pop hA.2.1
      cases s with
      | cons w s => exact (show False from hs).elim
      | nil =>
        obtain ⟨x, e, g1, g2, -⟩ := ab_kd1 hv hk.1
        cases e
        refine ⟨some (.int x), rfl, ?_, Or.inr ⟨?_, _, _, rfl, rfl, by rw [hk.1]; decide, hv⟩⟩
        · have e0 : (0 : Int32).toInt = 0 := rfl
          have e1 : (1 : Int32).toInt = 1 := rfl
          have e2 : (65535 : Int32).toInt = 65535 := rfl
          rcases hk.2 with rfl | ⟨rfl | rfl, l1, l2⟩ | ⟨rfl, l1, l2⟩
          · rfl
          · simp only [sm_okret, decide_eq_true_eq, ← Int32.toInt_inj]; omega
          · simp only [sm_okret, decide_eq_true_eq, ← Int32.toInt_inj]; omega
          · simp only [sm_okret, decide_eq_true_eq, Int32.le_iff_toInt_le]; omega
        · rcases hk.2 with rfl | ⟨rfl | rfl, -, -⟩ | ⟨rfl, -, -⟩ <;> decide
    · cases hr
  · next v0 =>
    split at hr
    · next hk =>
      cases hr
      obtain ⟨v, s, rfl, hv, hs⟩ := ab_pop hA.2.1
      cases s with
      | cons w s => exact (show False from hs).elim
      | nil =>
        obtain ⟨x, e, g1, g2⟩ := ab_kd2 hv hk.1
        cases e
        exact ⟨some (.long x), rfl, by rw [hk.2]; rfl, Or.inr ⟨by rw [hk.2]; decide, _, _, rfl, rfl, by rw [hk.1]; decide, hv⟩⟩
    · cases hr
  · next v0 =>
    split at hr
    · next hk =>
      cases hr
      obtain ⟨v, s, rfl, hv, hs⟩ := ab_pop hA.2.1
      cases s with
      | cons w s => exact (show False from hs).elim
      | nil =>
        have e := ab_kd3 hv hk.1
        cases e
        exact ⟨some (.ref v0.2.1.toNat), rfl, by rw [hk.2]; rfl, Or.inr ⟨by rw [hk.2]; decide, _, _, rfl, rfl, by rw [hk.1]; decide, hv⟩⟩
    · cases hr
  · split at hr
    · next hk =>
      cases hr
      have hs := hA.2.1
      cases st with
      | cons w s => exact (show False from hs).elim
      | nil => exact ⟨none, rfl, by rw [hk]; rfl, Or.inl ⟨hk, rfl, rfl⟩⟩
    · cases hr
  · cases hr
theorem ab_callv_ok {q : sm_I} {m pc : Nat} {as r : List ab_V} (hq : ab_callv sk q A = some (m, as, r)) (hA : ab_ok L0 h0 A ls st h) (hS : ab_Sh sk h) : ∃ vs s, sm_step q pc ls st h = some (.inr (.inr (m, vs, s))) ∧ ab_okSt ls h L0 h0 as vs ∧ ab_okSt ls h L0 h0 r s := by
  obtain ⟨i, len, rs⟩ := q
  unfold ab_callv at hq
  dsimp only at hq
  split at hq
  · next idx k m1 n =>
    split at hq
    · next as1 r1 ha =>
      cases hq
      obtain ⟨vs, s, e1, e2, e3⟩ := ab_args_ok hA.2.1 ha
      refine ⟨vs, s, ?_, e2, e3⟩
      simp only [sm_step, sm_callS, e1, sm_call]
    · cases hq
  · next idx k n ps =>
    split at hq
    · next a as1 r1 ha =>
      split at hq
      · next ka =>
        split at hq
        · next ci fl hk =>
          split at hq
          · next m1 hp =>
            cases hq
            obtain ⟨vs, s, e1, e2, e3⟩ := ab_args_ok hA.2.1 ha
            obtain ⟨v, vs, rfl, hv, hvs⟩ := ab_pop e2
            have e := ab_kd3 hv ka
            cases e
            obtain ⟨fs, c1, -, -⟩ := hS _ _ hk
            refine ⟨_, s, ?_, e2, e3⟩
            simp only [sm_step, sm_callV, e1, c1, hp, sm_call]
          · cases hq
        · cases hq
      · cases hq
    · cases hq
  · cases hq
theorem ab_find_ok {d m : Nat} {as : List ab_V} {hc : ab_HC} {c : ab_C} : ∀ env : List ab_C, ab_find sk d m as hc wr env = some c → c ∈ env ∧ c.1 = m ∧ ab_leL as c.2.1 = true ∧ ab_leH sk hc c.2.2.1 = true ∧ c.2.2.2.2.2 ≤ d ∧ ab_sub_wr c.2.2.2.2.1 wr = true := by
  intro env
  induction env with
  | nil => intro h; simp [ab_find] at h
  | cons e r ih =>
    intro h
    simp only [ab_find] at h
    split at h
    · next hc => cases h; exact ⟨List.mem_cons_self, hc⟩
    · obtain ⟨h1, h2⟩ := ih h
      exact ⟨List.mem_cons_of_mem _ h1, h2⟩
end ABK
/-! THE CHECK IS RIGHT -/
def ab_okF (L0 : sm_L) (h0 : sm_H) : List ab_F → List ab_CF → Prop
  | [], [] => True
  | f :: F, c :: C => f.1 = c.1 ∧ f.2.1 = c.2.1 ∧ (∃ hd, ab_okL c.2.2.1 hd L0 h0 f.2.2.1 ∧ ab_okSt c.2.2.1 hd L0 h0 f.2.2.2 c.2.2.2) ∧ ab_okF L0 h0 F C
  | _, _ => False
/-- the method at the bottom -/
def ab_base (m0 : Nat) : Nat → List ab_F → Prop
  | m, [] => m = m0
  | _, f :: F => ab_base m0 f.1 F
section ABM
variable {P : Nat → Option sm_M} {sk : ab_K} {wr : List (Nat × Nat)} {env : List ab_C} {heads : List ab_Hd} {posts : List (ab_V × ab_HC)} {thr : List Nat} {rk : Option ab_R}
theorem ab_n0_mv {L0 ls ls' : sm_L} {h0 h : sm_H} : ∀ t z, ab_n0 t = true → ab_tg ls h L0 h0 t z → ab_tg ls' h L0 h0 t z := fun t z hn ht => ⟨fun e => by
  unfold ab_n0 at hn
  rw [e] at hn
  simp at hn, ht.2⟩
theorem ab_n1_mv {L0 ls : sm_L} {h0 h h' : sm_H} : ∀ t z, ab_n1 t = true → ab_tg ls h L0 h0 t z → ab_tg ls h' L0 h0 t z := fun t z hn ht => ⟨ht.1, fun e => by
  unfold ab_n1 at hn
  rw [e] at hn
  simp at hn, ht.2.2⟩
theorem ab_backSt {L0 ls : sm_L} {h0 h : sm_H} {r : List ab_V} {s : List Value} {a : ab_V} {w : Value} (ha : ab_okV ls h L0 h0 a (some w)) (hr : ab_okSt ls h L0 h0 r s) : ab_okSt ls h L0 h0 (ab_back (some a) r) (sm_back (some w) s) := ⟨ha, hr⟩
theorem ab_all_keep {p : ab_T → Bool} {as : List ab_V} (h : as.all (fun a => !(a.1 == 0)) = true) : (as.map (ab_keep p)).all (fun a => !(a.1 == 0)) = true := by
  rw [List.all_map]
  exact h
theorem ab_slots_keep {p : ab_T → Bool} : ∀ as : List ab_V, (ab_slots (as.map (ab_keep p))).length = (ab_slots as).length := by
  intro as
  induction as with
  | nil => rfl
  | cons a r ih =>
    have e : (ab_keep p a).1 = a.1 := rfl
    simp only [List.map_cons, ab_slots, e]
    split <;> simp [ih]
set_option maxHeartbeats 2000000 in
theorem ab_exp_ok (henv : ∀ c ∈ env, ab_Ok P sk c) {L0 : sm_L} {h0 hS : sm_H} {m0 d0 nl0 k0 : Nat} {tab0 : List (Option sm_I)} (hk0 : P m0 = some (nl0, k0, tab0))
    (hih : ∀ e ∈ heads, ∀ (ls : sm_L) (h : sm_H), ls.length = e.2.1.length → (∀ (j : Nat) (b : ab_V), e.2.1[j]? = some b → ab_nv b (sm_lget ls j)) → ab_nvH e.2.2.1 h → ab_Sh sk h → ab_Fr wr hS h → (∀ r, rk = some r → ab_mu 8 (ab_vals e.2.2.2 ls h) < ab_mu 8 (ab_vals r L0 h0)) → ab_EndsX P (ab_PostT sk wr thr hS) d0 m0 e.1 ls [] h (ab_Post sk wr posts k0 hS)) :
    ∀ (n : Nat) (fresh : Bool) (d m pc : Nat) (A : ab_A) (F : List ab_F) (ls : sm_L) (st : List Value) (h : sm_H) (CF : List ab_CF), ab_exp P sk wr env heads posts thr rk n fresh d m pc A F = true → ab_ok L0 h0 A ls st h → ab_Sh sk h → ab_Fr wr hS h → ab_okF L0 h0 F CF → d + F.length = d0 → ab_base m0 m F → ab_EndsK P (ab_PostT sk wr thr hS) (ab_Post sk wr posts k0 hS) CF d m pc ls st h := by
  intro n
  induction n with
  | zero => intro fresh d m pc A F ls st h CF he; simp [ab_exp] at he
  | succ n ih =>
    intro fresh d m pc A F ls st h CF he hA hSh hFr hF hd hb
    unfold ab_exp at he
    split at he
    · next hh =>
      simp only [Bool.and_eq_true, List.isEmpty_iff] at hh
      obtain ⟨⟨rfl, -⟩, -⟩ := hh
      cases CF with
      | cons c C => exact (show False from hF).elim
      | nil =>
        obtain ⟨e, hem, hx⟩ := List.any_eq_true.mp he
        simp only [Bool.and_eq_true, beq_iff_eq, List.isEmpty_iff] at hx
        obtain ⟨⟨⟨⟨e1, e2⟩, e3⟩, e4⟩, e5⟩ := hx
        have hst := hA.2.1
        rw [e2] at hst
        cases st with
        | cons v s => exact (show False from hst).elim
        | nil =>
          have hm : m = m0 := hb
          have hd' : d = d0 := hd
          subst hm
          subst hd'
          obtain ⟨l1, l2⟩ := ab_leL_at _ _ e3
          show ab_EndsX P _ d m pc ls [] h _
          rw [← e1]
          refine hih e hem ls h (by rw [← hA.1.1]; exact l1) (fun j b hj => ?_) (ab_leH_ok hA.2.2 hSh e4) hSh hFr (fun r hr => ?_)
          · obtain ⟨a, ha, hab⟩ := l2 j b hj
            exact ab_leV_ok (hA.1.2 j a ha) hab
          · rw [hr] at e5
            exact ab_rk_ok 8 r _ e5 hA
    · cases hP : P m with
      | none => rw [hP] at he; cases he
      | some M =>
        obtain ⟨nl, k, tab⟩ := M
        rw [hP] at he
        dsimp only at he
        cases hq : tab[pc]? with
        | none => rw [hq] at he; cases he
        | some o =>
          cases o with
          | none => rw [hq] at he; cases he
          | some q =>
            rw [hq] at he
            dsimp only at he
            cases hs : ab_step sk wr q pc A with
            | some outs =>
              rw [hs] at he
              dsimp only at he
              obtain ⟨o, m1, ls', st', h', e1, e2, e3, e4⟩ := ab_step_ok hs hA hSh
              have := List.all_eq_true.mp he o m1
              exact ab_EndsK.step (M := (nl, k, tab)) hP hq e1 (ih _ _ _ _ _ _ _ _ _ _ this e2 e3 (hFr.trans e4) hF hd hb)
            | none =>
              rw [hs] at he
              dsimp only at he
              cases hr : ab_retv q k A with
              | some rv =>
                rw [hr] at he
                dsimp only at he
                obtain ⟨v, e1, e2, e3⟩ := ab_retv_ok (pc := pc) hr hA
                cases F with
                | nil =>
                  cases CF with
                  | cons c C => exact (show False from hF).elim
                  | nil =>
                    have hm : m = m0 := hb
                    subst hm
                    rw [hk0] at hP
                    cases hP
                    dsimp only at he
                    obtain ⟨p, hp, hx⟩ := List.any_eq_true.mp he
                    rw [Bool.and_eq_true] at hx
                    refine Or.inl (ab_Ends.ret (M := (nl0, k0, tab0)) hk0 hq e1 e2 ⟨hSh, hFr, p, hp, ?_, ab_leH_ok hA.2.2 hSh hx.2⟩)
                    unfold ab_res
                    rcases e3 with ⟨z1, z2, z3⟩ | ⟨z1, a, w, z2, z3, z4, z5⟩
                    · rw [if_pos z1]; exact z3
                    · rw [if_neg z1, z3]
                      have hx1 := hx.1
                      unfold ab_leR at hx1
                      rw [if_neg z1, z2] at hx1
                      exact ⟨fun _ => ab_leV_ok z5 hx1, by simp⟩
                | cons f F =>
                  cases CF with
                  | nil => exact (show False from hF).elim
                  | cons c C =>
                    obtain ⟨f1, f2, ⟨hd0, f3, f4⟩, f5⟩ := hF
                    dsimp only at he
                    refine ab_EndsK.ret (M := (nl, k, tab)) hP hq e1 e2 ?_
                    rw [← f1, ← f2]
                    refine ih _ _ _ _ _ _ c.2.2.1 (sm_back v c.2.2.2) h _ he ⟨ab_keepL ab_n1_mv f3, ?_, ab_keepHc ab_n0_mv hA.2.2 (fun _ _ => rfl)⟩ hSh hFr f5 (by rw [List.length_cons] at hd; omega) hb
                    have hrest : ab_okSt c.2.2.1 h L0 h0 (f.2.2.2.map (ab_keep ab_n1)) c.2.2.2 := ab_keepSt ab_n1_mv _ _ f4
                    rcases e3 with ⟨z1, z2, z3⟩ | ⟨z1, a, w, z2, z3, z4, z5⟩
                    · rw [z2, z3]; exact hrest
                    · rw [z2, z3]; exact ab_backSt (ab_keep_ok z5 ab_n0_mv) hrest
              | none =>
                rw [hr] at he
                dsimp only at he
                cases hc : ab_callv sk q A with
                | none =>
                  rw [hc] at he
                  dsimp only at he
                  cases ht : sm_thr q with
                  | none => rw [ht] at he; cases he
                  | some x =>
                    rw [ht] at he
                    simp only [Bool.and_eq_true, List.isEmpty_iff, decide_eq_true_eq] at he
                    obtain ⟨rfl, e2, e3⟩ := he
                    cases CF with
                    | cons c C => exact (show False from hF).elim
                    | nil =>
                      have hst := hA.2.1
                      rw [e2] at hst
                      cases st with
                      | cons v s => exact (show False from hst).elim
                      | nil => exact ab_EndsX.thr (M := (nl, k, tab)) hP hq ht ⟨e3, h, rfl, hSh, hFr⟩
                | some z =>
                  obtain ⟨m', as, r⟩ := z
                  rw [hc] at he
                  dsimp only at he
                  obtain ⟨vs, s, e1, e2, e3⟩ := ab_callv_ok (pc := pc) hc hA hSh
                  cases d with
                  | zero => cases he
                  | succ d' =>
                    cases hP' : P m' with
                    | none => rw [hP'] at he; cases he
                    | some M' =>
                      obtain ⟨nl', k', tab'⟩ := M'
                      rw [hP'] at he
                      dsimp only at he
                      rw [Bool.and_eq_true, Bool.and_eq_true, Bool.and_eq_true, decide_eq_true_eq] at he
                      obtain ⟨g1, g2, g3, he⟩ := he
                      have hen := ab_entry_ok (n := nl') (vs := vs) (as := as.map (ab_keep ab_n0)) (ab_keepSt (ls' := sm_entry nl' vs) (h' := h) ab_n0_mv as vs e2) (ab_all_keep g1) (by rw [ab_slots_keep]; exact g2)
                      have hcat := ab_cats_le e3 g3
                      cases hf : ab_find sk d' m' as A.2.2 wr env with
                      | some c =>
                        rw [hf] at he
                        dsimp only at he
                        obtain ⟨c1, c2, c3, c4, c5, c6⟩ := ab_find_ok env hf
                        have hok := henv c c1 h vs (nl', k', tab') (by rw [c2]; exact hP') hSh (ab_leL_st _ _ _ e2 c3) (ab_leH_ok hA.2.2 hSh c4)
                        rw [c2] at hok
                        refine ab_EndsK.con (M := (nl, k, tab)) (M' := (nl', k', tab')) hP hq e1 hP' hen.1 hcat (hok.deep c5) fun v h' hpost => ?_
                        obtain ⟨p1, p2, p, pm, pr, ph⟩ := hpost
                        have hall := List.all_eq_true.mp he p pm
                        rw [Bool.and_eq_true] at hall
                        refine ih _ _ _ _ _ _ ls (sm_back v s) h' _ hall.2 ⟨ab_keepL (ab_nw_mv p2) hA.1, ?_, ab_newH_ok hA.2.2 p2 ph⟩ p1 (hFr.trans (p2.wide (fun c hc => ab_swr_ok c6 hc))) hF hd hb
                        have hrest : ab_okSt ls h' L0 h0 (r.map (ab_keep (ab_nw c.2.2.2.2.1))) s := ab_keepSt (ab_nw_mv p2) _ _ e3
                        unfold ab_res at pr
                        by_cases hk' : k' = 0
                        · rw [if_pos hk'] at pr ⊢
                          rw [pr]
                          exact hrest
                        · rw [if_neg hk'] at pr ⊢
                          have hp0 : p.1.1 ≠ 0 := by
                            have := hall.1
                            simp only [Bool.or_eq_true, beq_iff_eq, Bool.not_eq_true', beq_eq_false_iff_ne] at this
                            exact this.resolve_left hk'
                          cases v with
                          | none => exact absurd rfl pr.2
                          | some w => exact ab_backSt (ab_nv_ok (pr.1 hp0)) hrest
                      | none =>
                        rw [hf] at he
                        dsimp only at he
                        refine ab_EndsK.inl (M := (nl, k, tab)) (M' := (nl', k', tab')) hP hq e1 hP' hen.1 hcat ?_
                        exact ih _ _ _ _ _ _ (sm_entry nl' vs) [] h _ he ⟨hen.2, trivial, ab_keepHc ab_n0_mv hA.2.2 (fun _ _ => rfl)⟩ hSh hFr ⟨rfl, rfl, ⟨h, hA.1, e3⟩, hF⟩ (by rw [List.length_cons]; omega) hb
/-! the whole check -/
theorem ab_headl_ok {ls : sm_L} {h : sm_H} : ∀ (al : List ab_V) (i : Nat), (∀ (j : Nat) (b : ab_V), al[j]? = some b → ab_nv b (sm_lget ls (i + j))) → ∀ (j : Nat) (a : ab_V), (ab_headl i al)[j]? = some a → ab_okV ls h ls h a (sm_lget ls (i + j)) := by
  intro al
  induction al with
  | nil => intro i _ j a hj; simp [ab_headl] at hj
  | cons b r ih =>
    intro i hn j a hj
    cases j with
    | zero =>
      simp only [ab_headl, List.getElem?_cons_zero, Option.some.injEq] at hj
      have hb := hn 0 b rfl
      rw [Nat.add_zero] at hb ⊢
      subst hj
      split
      · next hk =>
        obtain ⟨x, e, h1, h2, -⟩ := ab_kd1 hb hk
        rw [e]
        refine ab_mk1 h1 h2 fun t ht => ?_
        rw [List.mem_singleton.mp ht]
        exact ⟨fun z => (by cases z), fun z => (by cases z), fun _ => ⟨x, e, by dsimp only; omega⟩, fun z => (by cases z)⟩
      · exact ab_nv_ok hb
    | succ j =>
      have := ih (i + 1) (fun j b hj => by
        have := hn (j + 1) b (by simpa using hj)
        have e : i + 1 + j = i + (j + 1) := by omega
        rw [e]
        exact this) j a (by simpa [ab_headl] using hj)
      have e : i + (j + 1) = i + 1 + j := by omega
      rw [e]
      exact this
theorem ab_headl_len : ∀ (al : List ab_V) (i : Nat), (ab_headl i al).length = al.length := by
  intro al
  induction al with
  | nil => intro i; rfl
  | cons b r ih => intro i; simp [ab_headl, ih]
theorem ab_headh_ok {ls : sm_L} {h : sm_H} {hc : ab_HC} (hn : ab_nvH hc h) : ab_okH ls h ls h (ab_headh hc) := by
  intro e he
  obtain ⟨e', m, rfl⟩ := List.mem_map.mp he
  have hb := hn e' m
  show ab_okV ls h ls h (if e'.2.1 = 1 then (1, e'.2.2.1, e'.2.2.2.1, [(3, e'.1, 0)]) else ab_strip e'.2) (ab_fld h e'.1)
  split
  · next hk =>
    obtain ⟨x, ex, h1, h2, -⟩ := ab_kd1 hb hk
    rw [ex]
    refine ab_mk1 h1 h2 fun t ht => ?_
    rw [List.mem_singleton.mp ht]
    exact ⟨fun z => (by cases z), fun z => (by cases z), fun z => (by cases z), fun _ => ⟨x, ex, by dsimp only; omega⟩⟩
  · exact ab_nv_ok hb
theorem ab_nvs_ok {ls L0 : sm_L} {h h0 : sm_H} : ∀ (as : List ab_V) (vs : List Value), ab_nvs as vs → ab_okSt ls h L0 h0 (as.map ab_strip) vs := by
  intro as
  induction as with
  | nil => intro vs hs; cases vs with
    | nil => trivial
    | cons v s => exact (show False from hs).elim
  | cons a r ih => intro vs hs; cases vs with
    | nil => exact (show False from hs).elim
    | cons v s => exact ⟨ab_nv_ok hs.1, ih s hs.2⟩
theorem ab_slots_strip : ∀ as : List ab_V, (ab_slots (as.map ab_strip)).length = (ab_slots as).length := by
  intro as
  induction as with
  | nil => rfl
  | cons a r ih =>
    have e : (ab_strip a).1 = a.1 := rfl
    simp only [List.map_cons, ab_slots, e]
    split <;> simp [ih]
theorem ab_goodX_ok {fuel : Nat} {c : ab_C} (hg : ab_good P sk env heads thr fuel c = true) (henv : ∀ c' ∈ env, ab_Ok P sk c') : ab_OkX P sk thr c := by
  intro h as M hM hSh has hpre
  obtain ⟨nl, k, tab⟩ := M
  unfold ab_good at hg
  rw [hM] at hg
  dsimp only at hg
  simp only [Bool.and_eq_true, decide_eq_true_eq] at hg
  obtain ⟨⟨⟨g1, g2⟩, g3⟩, g4⟩ := hg
  have hheads : ∀ (N : Nat), ∀ e ∈ heads, ∀ (ls : sm_L) (h1 : sm_H), ab_mu 8 (ab_vals e.2.2.2 ls h1) < N → ls.length = e.2.1.length → (∀ (j : Nat) (b : ab_V), e.2.1[j]? = some b → ab_nv b (sm_lget ls j)) → ab_nvH e.2.2.1 h1 → ab_Sh sk h1 → ab_Fr c.2.2.2.2.1 h h1 → ab_EndsX P (ab_PostT sk c.2.2.2.2.1 thr h) c.2.2.2.2.2 c.1 e.1 ls [] h1 (ab_Post sk c.2.2.2.2.1 c.2.2.2.1 k h) := by
    intro N
    induction N with
    | zero => intro e _ ls h1 hN; omega
    | succ N ihN =>
      intro e he ls h1 hN hl hn hh hS1 hF1
      have hex := List.all_eq_true.mp g4 e he
      rw [Bool.and_eq_true] at hex
      exact ab_exp_ok (L0 := ls) (h0 := h1) (hS := h) (d0 := c.2.2.2.2.2) henv hM (fun e' he' ls' h' l1 l2 l3 l4 l5 l6 => ihN e' he' ls' h' (by have := l6 _ rfl; omega) l1 l2 l3 l4 l5) fuel true _ _ _ _ [] ls [] h1 [] hex.2 ⟨⟨by rw [ab_headl_len, hl], fun j a hj => by
        have := ab_headl_ok (h := h1) e.2.1 0 (fun j b hj => by rw [Nat.zero_add]; exact hn j b hj) j a hj
        rw [Nat.zero_add] at this
        exact this⟩, trivial, ab_headh_ok hh⟩ hS1 hF1 trivial rfl rfl
  have hen := ab_entry_ok (n := nl) (vs := as) (h := h) (L0 := []) (h0 := []) (as := c.2.1.map ab_strip) (ab_nvs_ok _ _ has) (by rw [List.all_map]; exact g1) (by rw [ab_slots_strip]; exact g2)
  exact ab_exp_ok (L0 := []) (h0 := []) (hS := h) (d0 := c.2.2.2.2.2) henv hM (fun e he ls h1 l1 l2 l3 l4 l5 _ => hheads _ e he ls h1 (Nat.lt_succ_self _) l1 l2 l3 l4 l5) fuel false _ _ _ _ [] (sm_entry nl as) [] h [] g3 ⟨hen.2, trivial, fun e he => by
    obtain ⟨e', m, rfl⟩ := List.mem_map.mp he
    exact ab_nv_ok (hpre e' m)⟩ hSh ab_Fr.refl trivial rfl rfl
theorem ab_good_ok {fuel : Nat} {c : ab_C} (hg : ab_good P sk env heads [] fuel c = true) (henv : ∀ c' ∈ env, ab_Ok P sk c') : ab_Ok P sk c := by
  intro h as M hM hSh has hpre
  rcases ab_goodX_ok hg henv h as M hM hSh has hpre with k | ⟨n, x, h', -, hx, -⟩
  · exact k
  · exact absurd hx List.not_mem_nil
end ABM
/-! the shape of the cells behind the constructors -/
def sx_sk0 : ab_K := [none, some (.inr (17, [(2, 26, 0), (0, 0, 0)])), some (.inr (17, [(2, 27, 0), (0, 0, 0)])), some (.inr (17, [(2, 28, 0), (0, 0, 0)])), some (.inr (17, [(2, 29, 0), (0, 0, 0)])), some (.inr (17, [(2, 30, 0), (0, 0, 0)])), some (.inr (17, [(2, 31, 0), (0, 0, 0)])), some (.inr (17, [(2, 32, 0), (0, 0, 0)])), some (.inr (17, [(2, 33, 0), (0, 0, 0)])), some (.inr (17, [(2, 34, 0), (0, 0, 0)])), some (.inr (17, [(2, 35, 0), (0, 0, 0)])), some (.inr (17, [(2, 36, 0), (0, 0, 0)])), some (.inr (17, [(2, 37, 0), (0, 0, 0)])), some (.inr (17, [(2, 38, 0), (0, 0, 0)])), some (.inr (17, [(2, 39, 0), (0, 0, 0)])), some (.inr (17, [(2, 40, 0), (0, 0, 0)])), some (.inr (17, [(2, 41, 0), (0, 0, 0)])), some (.inr (17, [(2, 42, 0), (0, 0, 0)])), some (.inr (17, [(2, 43, 0), (0, 0, 0)])), some (.inr (17, [(2, 44, 0), (0, 0, 0)])), some (.inr (17, [(2, 45, 0), (0, 0, 0)])), some (.inr (17, [(2, 46, 0), (0, 0, 0)])), some (.inr (17, [(2, 47, 0), (0, 0, 0)])), some (.inr (17, [(2, 48, 0), (0, 0, 0)])), some (.inr (17, [(2, 49, 0), (0, 0, 0)])), some (.inr (17, [(2, 50, 0), (0, 0, 0)])), some (.inl (4, 6, (-128), 127, [110, 117, 109, 98, 101, 114])), some (.inl (4, 4, (-128), 127, [110, 97, 109, 101])), some (.inl (4, 5, (-128), 127, [101, 109, 112, 116, 121])), some (.inl (4, 5, (-128), 127, [98, 108, 97, 110, 107])), some (.inl (4, 4, (-128), 127, [108, 105, 110, 101])), some (.inl (4, 6, (-128), 127, [100, 101, 101, 112, 101, 114])), some (.inl (4, 4, (-128), 127, [98, 97, 99, 107])), some (.inl (4, 8, (-128), 127, [61, 59, 124, 42, 63, 41, 126, 43])), some (.inl (4, 12, (-128), 127, [110, 111, 32, 115, 117, 99, 104, 32, 116, 101, 120, 116])), some (.inl (4, 14, (-128), 127, [110, 111, 32, 115, 117, 99, 104, 32, 115, 97, 109, 112, 108, 101])), some (.inl (4, 84, (-128), 127, [69, 32, 61, 32, 84, 32, 40, 32, 40, 32, 39, 43, 32, 124, 32, 39, 45, 32, 41, 32, 84, 32, 41, 42, 32, 59, 10, 84, 32, 61, 32, 70, 32, 40, 32, 40, 32, 39, 42, 32, 124, 32, 39, 47, 32, 41, 32, 70, 32, 41, 42, 32, 59, 10, 70, 32, 61, 32, 110, 117, 109, 98, 101, 114, 32, 124, 32, 110, 97, 109, 101, 32, 124, 32, 39, 40, 32, 69, 32, 39, 41, 32, 59, 10])), some (.inl (4, 131, (-128), 127, [80, 32, 61, 32, 39, 123, 32, 100, 101, 101, 112, 101, 114, 32, 40, 32, 108, 105, 110, 101, 32, 83, 32, 41, 42, 32, 98, 97, 99, 107, 32, 108, 105, 110, 101, 32, 39, 125, 32, 59, 10, 83, 32, 61, 32, 34, 108, 101, 116, 34, 32, 110, 97, 109, 101, 32, 98, 108, 97, 110, 107, 32, 39, 61, 32, 98, 108, 97, 110, 107, 32, 86, 32, 39, 59, 32, 124, 32, 34, 100, 111, 34, 32, 80, 32, 124, 32, 34, 112, 117, 116, 34, 32, 86, 32, 39, 59, 32, 59, 10, 86, 32, 61, 32, 110, 97, 109, 101, 32, 124, 32, 110, 117, 109, 98, 101, 114, 32, 43, 32, 49, 32, 124, 32, 39, 45, 32, 86, 32, 59, 10])), some (.inl (4, 92, (-128), 127, [68, 32, 61, 32, 39, 91, 32, 40, 32, 82, 32, 40, 32, 39, 44, 32, 98, 108, 97, 110, 107, 32, 82, 32, 41, 42, 32, 41, 63, 32, 39, 93, 32, 59, 10, 82, 32, 61, 32, 110, 97, 109, 101, 32, 39, 58, 32, 40, 32, 110, 117, 109, 98, 101, 114, 32, 126, 32, 85, 32, 41, 32, 59, 10, 85, 32, 61, 32, 39, 35, 32, 110, 97, 109, 101, 63, 32, 124, 32, 39, 36, 32, 124, 32, 101, 109, 112, 116, 121, 32, 59, 10])), some (.inl (4, 31, (-128), 127, [110, 111, 32, 100, 101, 115, 99, 114, 105, 112, 116, 105, 111, 110, 32, 116, 104, 97, 116, 32, 99, 97, 110, 32, 98, 101, 32, 114, 101, 97, 100]))]
def sx_sk1 : ab_K := [some (.inl (4, 12, (-128), 127, [110, 111, 32, 115, 117, 99, 104, 32, 114, 117, 108, 101])), some (.inl (4, 23, (-128), 127, [110, 111, 116, 104, 105, 110, 103, 32, 116, 104, 97, 116, 32, 97, 32, 114, 117, 108, 101, 32, 104, 97, 115])), some (.inl (4, 19, (-128), 127, [110, 111, 32, 103, 111, 111, 100, 32, 100, 101, 115, 99, 114, 105, 112, 116, 105, 111, 110])), some (.inl (4, 22, (-128), 127, [116, 111, 111, 32, 109, 97, 110, 121, 32, 110, 111, 100, 101, 115, 32, 111, 114, 32, 117, 115, 101, 115])), some (.inl (4, 12, (-128), 127, [110, 111, 32, 115, 117, 99, 104, 32, 102, 117, 101, 108])), some (.inl (4, 12, (-128), 127, [110, 111, 32, 115, 117, 99, 104, 32, 110, 111, 100, 101])), some (.inl (4, 23, (-128), 127, [110, 111, 116, 104, 105, 110, 103, 32, 116, 104, 97, 116, 32, 97, 32, 110, 111, 100, 101, 32, 104, 97, 115])), some (.inl (4, 7, (-128), 127, [110, 111, 32, 116, 114, 101, 101])), some (.inl (4, 19, (-128), 127, [116, 111, 111, 32, 109, 97, 110, 121, 32, 99, 104, 97, 114, 97, 99, 116, 101, 114, 115])), some (.inl (4, 17, (-128), 127, [110, 111, 32, 115, 117, 99, 104, 32, 99, 104, 97, 114, 97, 99, 116, 101, 114])), some (.inl (4, 13, (-128), 127, [110, 111, 116, 32, 116, 119, 111, 32, 116, 114, 101, 101, 115])), some (.inr (0, [(2, 52, 0), (2, 54, 0), (2, 56, 0), (2, 58, 0), (2, 60, 0), (2, 76, 0), (2, 78, 0), (2, 93, 0), (2, 94, 0), (2, 98, 0), (2, 102, 0), (2, 106, 0), (2, 107, 0), (2, 108, 0), (0, 0, 1), (0, 0, 1)])), some (.inr (1, [(2, 53, 0), (0, 0, 240)])), some (.inl (2, 240, 0, 65535, [])), some (.inr (1, [(2, 55, 0), (0, 0, 160)])), some (.inl (2, 160, 0, 65535, [])), some (.inr (1, [(2, 57, 0), (0, 0, 160)])), some (.inl (2, 160, 0, 65535, [])), some (.inr (1, [(2, 59, 0), (0, 0, 160)])), some (.inl (2, 160, 0, 65535, [])), some (.inr (2, [(0, (-2147483648), 2147483647), (2, 61, 0), (2, 62, 0), (2, 63, 0), (2, 64, 0), (0, (-2147483648), 2147483647), (0, (-2147483648), 2147483647), (2, 65, 0), (2, 66, 0), (2, 67, 0), (0, (-2147483648), 2147483647), (2, 68, 0), (2, 69, 0), (2, 70, 0), (2, 71, 0), (2, 72, 0), (2, 73, 0), (2, 74, 0), (0, (-2147483648), 2147483647), (2, 75, 0)])), some (.inl (0, 10, (-2147483648), 2147483647, [])), some (.inl (0, 10, (-2147483648), 2147483647, [])), some (.inl (0, 70, (-2147483648), 2147483647, [])), some (.inl (0, 70, (-2147483648), 2147483647, [])), some (.inl (0, 66, (-2147483648), 2147483647, [])), some (.inl (0, 66, (-2147483648), 2147483647, [])), some (.inl (0, 66, (-2147483648), 2147483647, [])), some (.inl (0, 60, (-2147483648), 2147483647, [])), some (.inl (0, 60, (-2147483648), 2147483647, [])), some (.inl (0, 60, (-2147483648), 2147483647, [])), some (.inl (0, 60, (-2147483648), 2147483647, [])), some (.inl (0, 60, (-2147483648), 2147483647, [])), some (.inl (0, 60, (-2147483648), 2147483647, [])), some (.inl (0, 60, (-2147483648), 2147483647, [])), some (.inl (0, 20, (-2147483648), 2147483647, [])), some (.inr (3, [(2, 77, 0), (2, 60, 0), (0, (-2147483648), 2147483647), (0, (-2147483648), 2147483647)])), some (.inr (4, [(2, 52, 0), (0, 0, 241), (0, 0, 241), (0, (-2147483648), 2147483647), (0, (-2147483648), 2147483647)])), some (.inr (5, [(2, 60, 0), (2, 79, 0), (2, 80, 0), (2, 81, 0), (2, 82, 0), (2, 83, 0), (2, 84, 0), (2, 85, 0), (2, 86, 0), (2, 87, 0), (2, 88, 0), (2, 89, 0), (2, 90, 0), (2, 91, 0), (2, 92, 0), (0, 0, 1)])), some (.inl (0, 70, (-2147483648), 2147483647, []))]
def sx_sk2 : ab_K := [some (.inl (1, 70, (-9223372036854775808), 9223372036854775807, [])), some (.inl (1, 70, (-9223372036854775808), 9223372036854775807, [])), some (.inl (0, 70, (-2147483648), 2147483647, [])), some (.inl (0, 70, (-2147483648), 2147483647, [])), some (.inl (0, 66, (-2147483648), 2147483647, [])), some (.inl (1, 66, (-9223372036854775808), 9223372036854775807, [])), some (.inl (0, 66, (-2147483648), 2147483647, [])), some (.inl (0, 66, (-2147483648), 2147483647, [])), some (.inl (1, 66, (-9223372036854775808), 9223372036854775807, [])), some (.inl (0, 60, (-2147483648), 2147483647, [])), some (.inl (1, 60, (-9223372036854775808), 9223372036854775807, [])), some (.inl (1, 60, (-9223372036854775808), 9223372036854775807, [])), some (.inl (0, 60, (-2147483648), 2147483647, [])), some (.inr (6, [(2, 60, 0), (2, 78, 0), (0, (-2147483648), 2147483647)])), some (.inr (7, [(0, (-2147483648), 2147483647), (2, 95, 0), (2, 96, 0), (2, 97, 0)])), some (.inl (0, 100, (-2147483648), 2147483647, [])), some (.inl (0, 100, (-2147483648), 2147483647, [])), some (.inl (0, 100, (-2147483648), 2147483647, [])), some (.inr (7, [(0, (-2147483648), 2147483647), (2, 99, 0), (2, 100, 0), (2, 101, 0)])), some (.inl (0, 100, (-2147483648), 2147483647, [])), some (.inl (0, 100, (-2147483648), 2147483647, [])), some (.inl (0, 100, (-2147483648), 2147483647, [])), some (.inr (7, [(0, (-2147483648), 2147483647), (2, 103, 0), (2, 104, 0), (2, 105, 0)])), some (.inl (0, 100, (-2147483648), 2147483647, [])), some (.inl (0, 100, (-2147483648), 2147483647, [])), some (.inl (0, 100, (-2147483648), 2147483647, [])), some (.inr (8, [(2, 60, 0), (2, 78, 0), (2, 102, 0), (0, 0, 1), (0, 0, 1), (0, (-2147483648), 2147483647), (2, 54, 0), (0, 0, 161), (0, 0, 161), (0, (-2147483648), 2147483647), (0, (-2147483648), 2147483647), (0, (-2147483648), 2147483647)])), some (.inr (9, [(2, 60, 0), (2, 78, 0), (2, 102, 0), (0, 0, 1), (0, 0, 1), (0, (-2147483648), 2147483647), (1, (-9223372036854775808), 9223372036854775807), (0, (-2147483648), 2147483647)])), some (.inr (10, [(2, 60, 0), (2, 78, 0), (2, 94, 0), (0, 0, 1), (0, 0, 1), (0, (-2147483648), 2147483647), (2, 58, 0), (0, (-2147483648), 2147483647), (0, (-2147483648), 2147483647), (0, 0, 1), (0, 0, 1), (0, 0, 1), (0, 0, 1)])), some (.inr (11, [(0, (-2147483648), 2147483647), (0, 0, 240), (0, 0, 160), (0, 0, 160), (2, 110, 0), (2, 111, 0), (2, 112, 0), (0, (-2147483648), 2147483647), (0, (-2147483648), 2147483647), (0, 0, 10), (0, 0, 20), (0, 0, 60), (0, 0, 80), (0, 0, 80), (2, 113, 0), (2, 114, 0), (2, 115, 0), (2, 116, 0), (2, 117, 0), (2, 118, 0), (2, 119, 0), (2, 120, 0), (2, 121, 0), (2, 122, 0), (2, 123, 0), (2, 124, 0), (2, 125, 0), (2, 126, 0), (2, 127, 0), (2, 128, 0), (2, 129, 0), (2, 130, 0), (2, 131, 0), (2, 132, 0), (2, 133, 0), (2, 134, 0), (2, 135, 0), (2, 136, 0), (2, 137, 0), (2, 138, 0), (2, 139, 0), (2, 140, 0), (2, 141, 0), (2, 142, 0), (2, 143, 0), (2, 144, 0), (2, 145, 0), (0, 0, 1), (0, 0, 2147483647), (0, (-2147483648), 2147483647), (0, 0, 2147483647), (0, 0, 5), (1, (-65536), 1073741823), (2, 146, 0), (2, 147, 0), (2, 148, 0), (2, 149, 0), (2, 150, 0), (2, 151, 0), (0, 0, 160), (2, 152, 0), (2, 153, 0), (2, 154, 0), (0, 0, 100), (0, 0, 100), (0, 0, 100), (2, 155, 0), (2, 156, 0), (2, 157, 0), (2, 158, 0), (2, 159, 0), (2, 160, 0), (2, 161, 0), (2, 162, 0), (2, 163, 0), (2, 164, 0), (0, (-2147483648), 2147483647), (0, (-2147483648), 2147483647), (0, (-2147483648), 2147483647), (0, (-2147483648), 2147483647), (0, (-2147483648), 2147483647), (0, (-2147483648), 2147483647), (0, (-2147483648), 2147483647), (0, (-2147483648), 2147483647), (0, (-2147483648), 2147483647), (0, 0, 160), (2, 165, 0), (2, 166, 0), (2, 167, 0), (2, 168, 0), (2, 169, 0), (2, 170, 0), (0, 0, 1), (0, 0, 1), (0, 0, 1), (1, (-9223372036854775808), 9223372036854775807)])), some (.inl (0, 240, 0, 255, [])), some (.inl (0, 160, (-2147483648), 2147483647, [])), some (.inl (0, 160, (-2147483648), 2147483647, [])), some (.inl (0, 10, (-2147483648), 2147483647, [])), some (.inl (0, 10, 0, 79, [])), some (.inl (0, 26, (-1), 9, [])), some (.inl (0, 10, (-2147483648), 2147483647, [])), some (.inl (0, 20, (-2147483648), 2147483647, [])), some (.inl (1, 20, (-65536), 1073741823, [])), some (.inl (0, 60, (-1), 10, []))]
def sx_sk3 : ab_K := [some (.inl (0, 60, (-2147483648), 2147483647, [])), some (.inl (0, 60, (-2147483648), 2147483647, [])), some (.inl (0, 60, (-2147483648), 2147483647, [])), some (.inl (0, 60, (-2147483648), 2147483647, [])), some (.inl (0, 60, (-1), 59, [])), some (.inl (0, 60, (-1), 59, [])), some (.inl (0, 80, (-1), 59, [])), some (.inl (0, 80, (-2147483648), 2147483647, [])), some (.inl (0, 80, (-1), 79, [])), some (.inl (0, 80, (-1), 79, [])), some (.inl (0, 80, 0, 7, [])), some (.inl (3, 60, 0, 1, [])), some (.inl (3, 80, 0, 1, [])), some (.inl (3, 80, 0, 1, [])), some (.inl (1, 60, (-9223372036854775808), 9223372036854775807, [])), some (.inl (1, 80, (-9223372036854775808), 9223372036854775807, [])), some (.inl (1, 80, (-9223372036854775808), 9223372036854775807, [])), some (.inl (1, 60, (-9223372036854775808), 9223372036854775807, [])), some (.inl (1, 80, (-9223372036854775808), 9223372036854775807, [])), some (.inl (0, 60, (-2147483648), 2147483647, [])), some (.inl (0, 80, (-2147483648), 2147483647, [])), some (.inl (0, 80, (-2147483648), 2147483647, [])), some (.inl (0, 60, (-2147483648), 2147483647, [])), some (.inl (0, 80, (-2147483648), 2147483647, [])), some (.inl (0, 80, (-2147483648), 2147483647, [])), some (.inl (0, 100, 0, 99, [])), some (.inl (0, 6, 0, 79, [])), some (.inl (0, 6, 0, 79, [])), some (.inl (0, 6, 0, 59, [])), some (.inl (0, 6, (-1), 59, [])), some (.inl (0, 6, (-1), 59, [])), some (.inl (3, 6, 0, 1, [])), some (.inl (0, 161, (-1), 23, [])), some (.inl (0, 161, 0, 160, [])), some (.inl (1, 161, (-9223372036854775808), 9223372036854775807, [])), some (.inl (0, 100, (-2147483648), 2147483647, [])), some (.inl (0, 100, (-2147483648), 2147483647, [])), some (.inl (0, 100, 0, 99, [])), some (.inl (0, 100, (-2147483648), 2147483647, [])), some (.inl (0, 100, (-2147483648), 2147483647, []))]
def sx_sk4 : ab_K := [some (.inl (0, 100, 0, 99, [])), some (.inl (0, 100, (-2147483648), 2147483647, [])), some (.inl (1, 100, (-9223372036854775808), 9223372036854775807, [])), some (.inl (1, 100, (-9223372036854775808), 9223372036854775807, [])), some (.inl (1, 100, (-9223372036854775808), 9223372036854775807, [])), some (.inl (0, 3000, (-2147483648), 2147483647, [])), some (.inl (0, 3000, (-2147483648), 2147483647, [])), some (.inl (0, 3000, (-2147483648), 2147483647, [])), some (.inl (0, 64, 0, 100, [])), some (.inl (0, 64, 0, 100, [])), some (.inl (0, 160, (-2147483648), 2147483647, [])), some (.inl (1, 1, (-9223372036854775808), 9223372036854775807, []))]
def sx_sk : ab_K := sx_sk0 ++ sx_sk1 ++ sx_sk2 ++ sx_sk3 ++ sx_sk4
