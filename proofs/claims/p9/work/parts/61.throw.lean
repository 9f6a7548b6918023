/-! THROWS. A walk may be begun anew from where it stands: then nothing has been written yet. -/
section SMT
variable {p : Program} {l : Launch} {e : Env} {R : Room} {s : State} {m : MethodId} {args : Array Value} {below : List Frame} {meth : Method} {c : Code} {T : State} {locs : List Loc} {cells slots : Nat}
/-- the invocation, made anew in the state that is reached -/
def sm_anew (T : State) (m : MethodId) (args : Array Value) (below : List Frame) : State := T.setFrames (.invoking m args :: below)
theorem sm_rebase (X : Stand p l e R s m args below meth c T locs cells slots) (hcR : cells ≤ R.cells ∧ slots ≤ R.slots) : Stand p l e { R with cells := R.cells - cells, slots := R.slots - slots } (sm_anew T m args below) m args below meth c T [] 0 0 := by
  obtain ⟨g₀, hfr⟩ := X.frames_eq
  have hcur : T.cur < T.threads.size := State.cur_lt_of_frames hfr
  have hf : (sm_anew T m args below).frames = .invoking m args :: below := State.frames_setFrames _ hcur
  have hr := X.room
  have hme : (sm_anew T m args below).me.stackBytes = T.me.stackBytes := State.stackBytes_setFrames T _
  have hb0 : T.me.stackBytes = 0 := X.bytes.trans (State.hasRoom_plain hr)
  have hli : (sm_anew T m args below).localsInUse = s.localsInUse := by
    unfold State.localsInUse
    rw [hf, X.frames]
    show stackWeight _ + ((((T.vm.method? m).bind (·.code)).map (·.maxLocals)).getD 0 + 11) = stackWeight _ + ((((s.vm.method? m).bind (·.code)).map (·.maxLocals)).getD 0 + 11)
    rw [X.method', X.method]
  have h1 := State.hasRoom_heap hr
  have h2 := State.hasRoom_real hr
  have hsz := X.heapSize
  have hus := X.used
  have hst : s.frames.length + R.frames ≤ e.platform.maxFrames ∧ s.localsInUse + R.locals ≤ e.platform.maxStackSlots := by
    simp only [State.hasRoom, Bool.and_eq_true, decide_eq_true_eq] at hr
    exact ⟨hr.1.1.1.2.1, hr.1.1.1.2.2.2.1⟩
  refine ⟨X.admits, X.cas, X.clock, hf, ?_, ?_, X.method', X.code, X.here, X.tail, State.WarmedH.refl T, ?_, hme.symm, ?_⟩
  · refine State.hasRoom_of (hme.trans hb0) ?_ ?_ ?_ ?_ ?_ ?_
    · rw [hf, ← X.frames]; exact hst.1
    · rw [hli]; exact hst.2
    · show T.heap.size + (R.cells - cells) ≤ _
      omega
    · show T.slotsUsed + (R.slots - slots) ≤ _
      omega
    · exact X.book
    · rw [hli]; exact h2
  · have hh := X.hears
    have ha := X.warmed.alike
    cases below with
    | nil => exact (by simpa [State.hears, sm_anew, ha.method?] using hh)
    | cons f r =>
      cases f with
      | java g =>
        have e1 : (sm_anew T m args (.java g :: r)).code? g.method = s.code? g.method := by
          rw [State.code?_eq, State.code?_eq]
          show (T.vm.method? g.method).bind _ = _
          rw [ha.method?]
        simpa [State.hears, e1] using hh
      | _ => first | exact hh | (simpa [State.hears, sm_anew, ha.method?] using hh)
  · show e.platform.stackLimits T.me = e.platform.stackLimits (sm_anew T m args below).me
    rw [Platform.stackLimits_plain hb0, Platform.stackLimits_plain (hme.trans hb0)]
  · have hT : T.setVm (sm_anew T m args below).vm = T := State.setVm_self T
    rw [hT]
    have hd : (T.heap.toList.drop (sm_anew T m args below).heap.size) = [] := List.drop_eq_nil_of_le (by show T.heap.toList.length ≤ T.heap.size; simp)
    refine ⟨?_, Nat.le_refl _, Nat.le_refl _, ?_, ?_, ?_⟩
    · obtain ⟨t, ht, -⟩ := State.frames_cons hfr
      show T = ({ (T.setFrames _).setFrames T.frames with heap := T.heap, slotsUsed := T.slotsUsed } : State)
      rw [State.setFrames_setFrames, State.setFrames_self ht]
    · rw [hd]; rfl
    · rw [hd]; exact Nat.le_refl _
    · intro a c0 ha
      exact ⟨c0, ha, rfl, rfl, fun _ _ => rfl⟩
/-- a step of frames alone changes no words of the tables -/
theorem sm_anew_same {U : State} {L : List Loc} {k n : Nat} (X : Stand p l e R s m args below meth c T locs cells slots) (hB : (sm_anew T m args below).sameButNew ({ U with vm := (sm_anew T m args below).vm } : State) L k n) : s.sameButNew ({ U with vm := s.vm } : State) (locs ++ L) (cells + k) (slots + n) := by
  have hT : T.sameButNew ({ U with vm := T.vm } : State) L k n := by
    obtain ⟨h1, h2, h3, h4, h5, h6⟩ := hB
    refine ⟨?_, h2, h3, h4, h5, h6⟩
    have h1' : ({ U with vm := T.vm } : State) = ({ (T.setFrames (.invoking m args :: below)).setFrames U.frames with heap := U.heap, slotsUsed := U.slotsUsed } : State) := h1
    rw [State.setFrames_setFrames] at h1'
    exact h1'
  exact X.same.trans (hT.setVm s.vm)
/-- what holds when an exception of class X has been made and thrown out of the method -/
def sm_Thr (s : State) (below : List Frame) (X : String) (H : Heap) (locs : List Loc) (cells slots : Nat) (t : State) : Prop :=
  t.status = .running ∧ Ended t below (.threw H.size) ∧ s.WarmedH t.vm ∧ s.sameButNew ({ t with vm := s.vm } : State) locs (cells + 1) (slots + 6) ∧ t.heap.size = H.size + 1 ∧ (∀ q, q < H.size → t.heap[q]? = H[q]?) ∧ ∃ ce, t.heap[H.size]? = some ce ∧ s.vm.findClass X = some ce.cls ∧ ce.vm = .none
variable {H : Heap} {cc : ByteArray} {pc ix il ic : Nat} {LS : Array Slot} {st : List Value} {own X tx : String} {names : List String} {q : Nat} {Ts : List Cond}
theorem sm_ldcwS {Q : State → Prop} {rest : List Value} (hexec : p.tables.exec = Jvm.exec) (hb : c.code = cc) (hown : s.vm.findClass own = some m.cls) (hZ : vk_R own il tx q s) (hdg : decode cc pc = .ok (.ldc_w il, 3))
    (k : W p l e R s m args below meth c H locs cells slots Q (F0 m (pc + 3) LS (.ref q :: rest))) : W p l e R s m args below meth c H locs cells slots Q (F0 m pc LS rest) := by
  intro T hT X0
  obtain ⟨t, a1, b1⟩ := k T hT X0
  refine ⟨t, ?_, b1⟩
  obtain ⟨k, cf, i, a', hk, hcf, hcp, -, hr, hev'⟩ := Cond.stringRef_spec hown hZ.1
  cases hZ.2.symm.trans hev'
  obtain ⟨k', hk', he⟩ := X0.warmed.alike.2.2 _ _ hk
  have hr' : k'.resolved[il]? = some (some (.string q)) := by
    rcases X0.warmed.entry hk hk' il with h | ⟨h, -⟩
    · rw [h]; exact hr
    · rw [hr] at h; cases h
  have hdg' : decode c.code (F0 m pc LS rest).pc = .ok (.ldc_w il, 3) := by rw [hb]; exact hdg
  jvm_step X0.here [hexec, hdg', ldc_w.wp_string (e := e) (s := T) (f := F0 m pc LS rest) X0.here.top hk' (by rw [he]; exact hcf) hcp hr']
  exact a1
set_option maxHeartbeats 4000000 in
theorem sm_throwW {pi : Nat} (hexec : p.tables.exec = Jvm.exec) (htr : e.platform.stackTraces = false) (hb : c.code = cc) (hml : c.maxLocals = LS.size) (hlocks : meth.locks = false) (hnoh : c.exceptionTable.toList = []) (hown : s.vm.findClass own = some m.cls)
    (hts : ∀ w ∈ Ts, w.before args s = true) (hgw : ∀ w ∈ Ts, goodWord w = true)
    (h1 : Cond.classLink own ix X ∈ Ts) (h2 : Cond.instantiable X 6 ∈ Ts) (h3 : Cond.initialized X ∈ Ts) (hX1 : Bundle.fit X = true) (hX2 : ∀ n ∈ names, Bundle.fit n = true)
    (hat : sm_atomsOf own ic X names (fun a => a ∈ Ts ∨ ∀ U : State, s.WarmedH U.vm → U.heap = H → a.before args U = true))
    (hstr : vk_R own il tx q s) (hroom : cells + 1 ≤ R.cells ∧ slots + 6 ≤ R.slots) (hfr : names.length + 3 < R.frames) (hlo : (st.map fun v => v.category).sum + (13 * (names.length + 1) + 43) ≤ R.locals)
    (d0 : decode cc pc = .ok (.new ix, 3)) (d1 : decode cc (pc + 3) = .ok (.dup, 1)) (d2 : (decode cc (pc + 4) = .ok (.ldc il, 2) ∧ pi = pc + 6) ∨ (decode cc (pc + 4) = .ok (.ldc_w il, 3) ∧ pi = pc + 7)) (d3 : decode cc pi = .ok (.invokespecial ic, 3)) (d4 : decode cc (pi + 3) = .ok (.athrow, 1)) :
    W p l e R s m args below meth c H locs cells slots (sm_Thr s below X H locs cells slots) (F0 m pc LS st) := by
  intro T hT X0
  subst hT
  have X1 := sm_rebase X0 ⟨by omega, by omega⟩
  have hW : s.WarmedH (sm_anew T m args below).vm := X0.warmed
  have hwd : ∀ w ∈ Ts, w.before args (sm_anew T m args below) = true := fun w hw => word_at hW (good_of_word (hgw w hw)) (hts w hw)
  have hown' : (sm_anew T m args below).vm.findClass own = some m.cls := by rw [hW.alike.findClass]; exact hown
  obtain ⟨cX, kX, hfX, hkX, -⟩ := Cond.instantiable_spec (hwd _ h2)
  have hW2 : W p l e { R with cells := R.cells - cells, slots := R.slots - slots } (sm_anew T m args below) m args below meth c T.heap [] 0 0 (fun t => t.status = .running ∧ Ended t below (.threw T.heap.size) ∧ (sm_anew T m args below).WarmedH t.vm ∧ (sm_anew T m args below).sameButNew ({ t with vm := (sm_anew T m args below).vm } : State) [] 1 6 ∧ ∃ ce, t.heap[T.heap.size]? = some ce ∧ (sm_anew T m args below).vm.findClass X = some ce.cls ∧ ce.vm = .none) (F0 m pc LS st) := by
    refine W.newcK hexec hb hown' (hwd _ h1) (hwd _ h2) (hwd _ h3) rfl d0 (by show 0 + 1 ≤ R.cells - cells; omega) (by show 0 + 6 ≤ R.slots - slots; omega) hfX rfl fun H1 kC hkC e1 z o => ?_
    refine lv_dup hexec hb d1 rfl ?_
    have hfin : W p l e { R with cells := R.cells - cells, slots := R.slots - slots } (sm_anew T m args below) m args below meth c H1 [] (0 + 1) (0 + 6) (fun t => t.status = .running ∧ Ended t below (.threw T.heap.size) ∧ (sm_anew T m args below).WarmedH t.vm ∧ (sm_anew T m args below).sameButNew ({ t with vm := (sm_anew T m args below).vm } : State) [] 1 6 ∧ ∃ ce, t.heap[T.heap.size]? = some ce ∧ (sm_anew T m args below).vm.findClass X = some ce.cls ∧ ce.vm = .none) (F0 m pi LS (.ref q :: .ref T.heap.size :: .ref T.heap.size :: st)) := by
      intro T2 hT2 X2
      rcases hat with hat | ⟨Y0, ns, ix2, by2, rfl, b0, b1, b2, b5, hat⟩
      · obtain ⟨U, u1, u2, u3, u4, u5, ce, u6, u7⟩ := X2.ctorThrowS hexec htr (own := own) (cls := X) (names := names) (ic := ic) hown' hX1 hX2 (fun a ha => by
            rcases hat a ha with h | h
            · exact hwd a h
            · exact h (sm_anew T m args below) hW rfl) (fun x hx => by cases hx) (a := T.heap.size) hfX hkC (by rw [hT2]; exact e1) (Nat.le_refl _) (msg := .ref q) rfl (g := F0 m pi LS (.ref q :: .ref T.heap.size :: .ref T.heap.size :: st)) rfl (by rw [hml]) rfl rfl (rest := st) rfl (by rw [hb]; exact d3) (by rw [hb]; exact d4) (by rw [hnoh]; exact fun x hx => by cases hx) hfr (by show 2 * 0 + (1 + (st.map fun v => v.category).sum) + _ ≤ R.locals; omega) hlocks
        exact ⟨U, u1, u2, u3, u4, u5, ce, u6, u7.cls, u7.vm⟩
      · have hll : (Y0 :: ns).length = ns.length + 1 := List.length_cons
        exact sm_oddCtor X2 hexec htr (own := own) (cls := X) (names := ns) (ic := ic) hown' hX1 (hX2 _ List.mem_cons_self) (fun n hn => hX2 n (List.mem_cons_of_mem _ hn)) (fun a ha => by
            rcases hat a ha with h | h
            · exact hwd a h
            · exact h (sm_anew T m args below) hW rfl) b0 b1 b2 b5 (fun x hx => by cases hx) (a := T.heap.size) hfX hkC (by rw [hT2]; exact e1) (Nat.le_refl _) (msg := .ref q) rfl (g := F0 m pi LS (.ref q :: .ref T.heap.size :: .ref T.heap.size :: st)) rfl (by rw [hml]) rfl rfl (rest := st) rfl (by rw [hb]; exact d3) (by rw [hb]; exact d4) (by rw [hnoh]; exact fun x hx => by cases hx) hfr (by show 2 * 0 + (1 + (st.map fun v => v.category).sum) + _ ≤ R.locals; omega) hlocks
    rcases d2 with ⟨d2, e0⟩ | ⟨d2, e0⟩
    · subst e0
      exact va_ldcS hexec hb hown' (vk_R.warm hW hstr) d2 hfin
    · subst e0
      exact sm_ldcwS hexec hb hown' (vk_R.warm hW hstr) d2 hfin
  obtain ⟨t, t1, t2, t3, t4, t5, ce, t6, t7, t8⟩ := hW2 T rfl X1
  have hlt : T.heap.size < t.heap.size := (Array.getElem?_eq_some_iff.mp t6).1
  have hle : t.heap.size ≤ T.heap.size + 1 := t5.2.2.1
  refine ⟨t, t1, t2, t3, X0.warmed.trans t4, ?_, by omega, fun q hq => ?_, ce, t6, by rw [← hW.alike.findClass]; exact t7, t8⟩
  · have := sm_anew_same X0 t5
    rw [List.append_nil] at this
    exact this
  · have hq2 : T.heap[q]? = some T.heap[q] := Array.getElem?_eq_getElem hq
    obtain ⟨c', w1, w2, w3, w4⟩ := t5.2.2.2.2.2 q _ hq2
    have w1' : t.heap[q]? = some c' := w1
    rw [w1', hq2]
    have e2 : c'.slots = T.heap[q].slots := by
      apply Array.ext_getElem?
      intro i
      exact w4 i (fun hx => by cases hx)
    rw [w2, e2]
end SMT
