/-! A THROW whose constructor passes the text on by another pool entry than the library's chains have (NoSuchElementException): the first link is given by its own bytes, the rest is the library's chain -/
def sm_tail (own : String) (ic : Nat) (X : String) : List Cond := (Bundle.ownAtoms own ic X []).drop 33
def sm_odd (own : String) (ic : Nat) (X Y : String) (ix : Nat) (bytes : ByteArray) (names : List String) : List Cond :=
  (Bundle.throwableAtoms ++ Bundle.throwableSAtoms) ++ (Bundle.passSAtoms X Y ix bytes ++ (Bundle.chainSAtoms Y names ++ sm_tail own ic X))
section SMODD
variable {p : Program} {l : Launch} {e : Env} {R : Room} {s : State} {m₀ : MethodId} {args : Array Value} {below : List Frame} {meth : Method} {c : Code} {V : State} {locs : List Loc} {cells slots : Nat}
set_option maxHeartbeats 4000000 in
theorem sm_oddCtor (X : Stand p l e R s m₀ args below meth c V locs cells slots) (hexec : p.tables.exec = Jvm.exec) (htr : e.platform.stackTraces = false) {own cls Y : String} {names : List String} {ic ix : Nat} {bytes : ByteArray}
    (hown : s.vm.findClass own = some m₀.cls) (hcls : Bundle.fit cls = true) (hY : Bundle.fit Y = true) (hnames : ∀ n ∈ names, Bundle.fit n = true) (h : ∀ a ∈ sm_odd own ic cls Y ix bytes names, a.before args s = true)
    (b0 : decode bytes 0 = .ok (.aload_n 0, 1)) (b1 : decode bytes 1 = .ok (.aload_n 1, 1)) (b2 : decode bytes 2 = .ok (.invokespecial ix, 3)) (b5 : decode bytes 5 = .ok (.return_, 1))
    (hlocs : ∀ x ∈ locs, ∀ cell, s.heap[x.base]? = some cell → cell.vm.isStatics = false)
    {a : Addr} {cX : ClassId} {kX : Class} (hfX : s.vm.findClass cls = some cX) (hkX : s.vm.classes[cX]? = some kX) (hcell : V.heap[a]? = some (freshCell cX kX)) (hnew : s.heap.size ≤ a)
    {msg : Value} (hmsg : msg.isRef = true) {g : JFrame} (hg : g.method = m₀) (hsize : g.locals.size = c.maxLocals) (hlocked : g.locked = none) (hentered : g.entered = []) {rest : List Value} (hstack : g.stack = msg :: .ref a :: .ref a :: rest)
    (hd6 : decode c.code g.pc = .ok (.invokespecial ic, 3)) (hd9 : decode c.code (g.pc + 3) = .ok (.athrow, 1)) (hout : ∀ x ∈ c.exceptionTable.toList, covers x (g.pc + 3) = false)
    (hfr : names.length + 1 + 3 < R.frames) (hlo : 2 * g.monitorRoom + ((Value.ref a :: rest).map fun v => v.category).sum + (13 * (names.length + 1 + 1) + 42) ≤ R.locals) (hlocks : meth.locks = false) :
    ∃ U : State, Steps p.tables e below (V.setTop g) U ∧ U.status = .running ∧ Ended U below (.threw a) ∧ s.WarmedH U.vm ∧ s.sameButNew ({ U with vm := s.vm } : State) locs cells slots ∧ ∃ ce, U.heap[a]? = some ce ∧ s.vm.findClass cls = some ce.cls ∧ ce.vm = .none := by
  have howns : e.platform.frameOwnsMonitors = true := by rw [X.admits.platform]
  have hfin : e.platform.finalization = false := by rw [X.admits.platform]
  have hpl : e.platform.magicAccessors = ({} : Platform).magicAccessors := by rw [X.admits.platform]
  have hA : ∀ x ∈ Bundle.throwableAtoms, x.before args s = true := fun x hx => h x (List.mem_append.mpr (Or.inl (List.mem_append.mpr (Or.inl hx))))
  have hS : ∀ x ∈ Bundle.throwableSAtoms, x.before args s = true := fun x hx => h x (List.mem_append.mpr (Or.inl (List.mem_append.mpr (Or.inr hx))))
  have hP : ∀ x ∈ Bundle.passSAtoms cls Y ix bytes, x.before args s = true := fun x hx => h x (List.mem_append.mpr (Or.inr (List.mem_append.mpr (Or.inl hx))))
  have hC : ∀ x ∈ Bundle.chainSAtoms Y names, x.before args s = true := fun x hx => h x (List.mem_append.mpr (Or.inr (List.mem_append.mpr (Or.inr (List.mem_append.mpr (Or.inl hx))))))
  have hT : ∀ x ∈ sm_tail own ic cls, x.before args s = true := fun x hx => h x (List.mem_append.mpr (Or.inr (List.mem_append.mpr (Or.inr (List.mem_append.mpr (Or.inr hx))))))
  have tl : ∀ (n : Nat) (x : Cond), (sm_tail own ic cls)[n]? = some x → x.before args s = true := fun n x hx => hT x (List.mem_of_getElem? hx)
  obtain ⟨T, Z0, L, -, Q⟩ := ThrowableC.of_atoms (args := args) howns hfin hpl hA
  obtain ⟨Z, M, LZ, LM, hnZ⟩ := Init0T.ofS_atoms (args := args) hpl L Q hS
  obtain ⟨P2, Ps, hlen, L2, hL, hP2m, hlink2, hlink⟩ := Bundle.chainS (args := args) hpl hnZ names Y hY hnames hC
  obtain ⟨P1, L1, hP1m, hP1s⟩ := PassC.ofS_atoms (args := args) hpl (Bundle.fit_spec hcls).1 (Bundle.fit_spec hY).2 b0 b1 b2 b5 hP
  have hlink1 : P1.sup = P2.m := Option.some.inj (hP1s.symm.trans hP2m)
  have hfound : s.vm.findClass cls = some P1.m.cls := findClass_of_methodNamed hP1m
  cases Option.some.inj (hfX.symm.trans hfound)
  obtain ⟨c1, kX', hc1, hk, hord, -, -, hn6⟩ := Cond.instantiable_spec (tl 1 _ rfl)
  cases Option.some.inj (hc1.symm.trans hfound)
  cases Option.some.inj (hkX.symm.trans hk)
  have hsel0 : selectMethod e.platform s.vm P1.m.cls T.fill0 = .method T.fill0 := by
    obtain ⟨c2, r2, m2, q1, q2, q3, q4, -⟩ := Cond.selects_spec (tl 3 _ rfl)
    cases Option.some.inj (q1.symm.trans hfound)
    cases Option.some.inj (q2.symm.trans (State.methodFound?_of_named Q.fill0 (by decide)))
    cases Option.some.inj (q3.symm.trans Q.fill0)
    rw [Launch.admits_selectMethod X.admits]
    exact q4
  have hselF : selectMethod e.platform s.vm P1.m.cls T.fill = .method T.fill := by
    obtain ⟨c2, r2, m2, q1, q2, q3, q4, -⟩ := Cond.selects_spec (tl 4 _ rfl)
    cases Option.some.inj (q1.symm.trans hfound)
    cases Option.some.inj (q2.symm.trans (State.methodFound?_of_named Q.fill (by decide)))
    cases Option.some.inj (q3.symm.trans Q.fill)
    rw [Launch.admits_selectMethod X.admits]
    exact q4
  obtain ⟨cS0, hcS0, hiss⟩ := Q.statics
  obtain ⟨u0, hu0⟩ := Cond.staticRefV Q.unassigned L.unassignedStatic L.statics hcS0 hiss (tl 9 _ rfl)
  obtain ⟨sen, hsen⟩ := Cond.staticRefV Q.sentinel L.sentinelStatic L.statics hcS0 hiss (tl 10 _ rfl)
  obtain ⟨ci198, i198, fB, hk198, hg198, ha198, hsB, -, hnB, htB, hffB⟩ := Cond.ownField (t := .object "java/lang/Object") Q.found L.cls (by decide +kernel) (tl 11 _ rfl) (tl 12 _ rfl) e.platform hpl
  obtain ⟨cellS, hcellS, heS, -, hkeep⟩ := X.same.2.2.2.2.2 T.aS cS0 hcS0
  have hout' : ∀ i, (⟨T.aS, i⟩ : Loc) ∉ locs := fun i hm => by
    have := hlocs _ hm cS0 hcS0
    rw [hiss] at this
    cases this
  have hknownS : cellS.vm ≠ .unknown := by
    rw [heS]
    intro hu
    rw [show cS0.vm = .unknown from hu] at hiss
    cases hiss
  have hneS : T.aS ≠ a := Nat.ne_of_lt (Nat.lt_of_lt_of_le (Array.getElem?_eq_some_iff.mp hcS0).1 hnew)
  obtain ⟨iM, hffM⟩ := Q.msg
  obtain ⟨tyC, dC, hdC, hdnC⟩ := Cond.laysAt hfound hk Q.cause (tl 5 _ rfl)
  obtain ⟨tyS, dS, hdS, hdnS⟩ := Cond.laysAt hfound hk Q.stack (tl 6 _ rfl)
  obtain ⟨tyP, dP, hdP, hdnP⟩ := Cond.laysAt hfound hk Q.supp (tl 7 _ rfl)
  obtain ⟨tyM, dM, hdM, hdnM⟩ := Cond.laysAt hfound hk hffM (tl 8 _ rfl)
  obtain ⟨tyB, dB, hdB, hdnB⟩ := Cond.laysAt hfound hk hffB (tl 13 _ rfl)
  have bC := Cond.laysApart hdB hdC hdnB hdnC (by rw [hnB, Q.causeName]; decide)
  have bS := Cond.laysApart hdB hdS hdnB hdnS (by rw [hnB, Q.stackName]; decide)
  have bP := Cond.laysApart hdB hdP hdnB hdnP (by rw [hnB, Q.suppName]; decide)
  have hskip : SkipFacts T e.platform s (fun u => u) u0 ((preparedCellV T.toThrowableT (freshCell P1.m.cls kX) a u0 sen).withEntry V.cur) :=
    ⟨{ ci198 := ci198, i198 := i198, fBack := fB }, ⟨hk198, hg198, ha198, hsB⟩, by
      have := fresh_default (c := P1.m.cls) tyB
      rw [htB] at this
      simpa [preparedCellV, Cell.setSlot, Cell.withEntry, Array.getElem?_setIfInBounds, bC, bS, bP, bC.symm, bS.symm, bP.symm, defaultValue] using this, fun _ _ => rfl⟩
  obtain ⟨tm, methC, cdC, kC, vm₁, hnC, -, -, -, -, -, -, -, hW₁, st1⟩ := Steps.initColdS (tb := p.tables) (e := e) (below := below) (s := s) (U := V) X.here hexec X.warmed hpl hown (t := Bundle.initS cls) rfl rfl (Bundle.fit_spec hcls).2
    (tl 0 _ rfl) (hP _ List.mem_cons_self) (bytes := bytes) (maxL := 2) (hP _ (List.mem_cons_of_mem _ List.mem_cons_self)) (f := g) hg (a := a) (msg := msg) (rest := .ref a :: rest) hstack hd6
  cases Option.some.inj (hnC.symm.trans hP1m)
  have X₁ := X.noted hW₁
  obtain ⟨vm₂, X₂, st2⟩ := X₁.ctorMessageOffV hexec (g := { g with stack := .ref a :: rest }) hg hsize T L Z LZ M LM (P1 :: P2 :: Ps)
    (fun P hP => by
      rcases List.mem_cons.mp hP with rfl | hP
      · exact L1
      · rcases List.mem_cons.mp hP with rfl | hP
        · exact L2
        · exact hL P hP) ⟨hlink1, hlink2, hlink⟩ (u0 := u0) (sen := sen) (self := a) hmsg (cell := freshCell P1.m.cls kX) (cellS := cellS)
    hcell (fun _ => by simp) (by simp) rfl rfl hsel0 hselF hcellS hneS hknownS (by rw [hkeep _ (hout' _)]; exact hu0) (by rw [hkeep _ (hout' _)]; exact hsen)
    (Takes.of_laid hk hord tyC (by rw [Q.causeType]; rfl)) (Takes.of_laid hk hord tyS (by rw [Q.stackType]; exact fits_refV_array _ u0)) (Takes.of_laid hk hord tyP (by rw [Q.suppType]; exact fits_refV_object _ sen))
    (Takes.of_laid hk hord tyM (by rw [Q.msgType]; exact fits_refV_object _ ⟨msg, hmsg⟩)) Q.objLocals hskip htr [] hd6
    (by simp only [List.length_cons, hlen]; omega) (by simp only [List.length_cons, hlen]; exact hlo)
  obtain ⟨hwalk, hrun, hended, hWU, hsame⟩ := X₂.athrowLeaves hexec (g := { g with stack := .ref a :: rest, pc := g.pc + 3 }) hg hlocked hentered hout (a := a) (rest := rest) rfl hd9
  have hlt : a < ((V.setVm vm₁).setVm vm₂).heap.size := (Array.getElem?_eq_some_iff.mp hcell).1
  have hU := heapAt_setCell_self (s := (V.setVm vm₁).setVm vm₂) (plainBareV T.toThrowableT (freshCell P1.m.cls kX) a u0 sen msg) hlt
  refine ⟨_, st1 _ (fun acts => ?_), hrun, hended, hWU, hsame.weaken (fun y hy hlt' => ?_) (Nat.le_refl _) (Nat.le_refl _), _, hU, hfound, rfl⟩
  · rw [doInvoke_state]
    exact st2 _ hwalk
  · rcases List.mem_append.mp hy with h1 | h1
    · exact h1
    · exfalso
      have hb : y.base = a := by
        simp only [List.mem_cons, List.not_mem_nil, or_false] at h1
        rcases h1 with rfl | rfl | rfl | rfl | rfl <;> rfl
      rw [hb] at hlt'
      exact Nat.not_lt.mpr hnew hlt'
end SMODD
/-- the words of a throw, of either form -/
def sm_atomsOf (own : String) (ic : Nat) (X : String) (names : List String) (G : Cond → Prop) : Prop := (∀ a ∈ Bundle.ownAtoms own ic X names, G a) ∨ ∃ (Y : String) (ns : List String) (ix : Nat) (bytes : ByteArray), names = Y :: ns ∧ decode bytes 0 = .ok (.aload_n 0, 1) ∧ decode bytes 1 = .ok (.aload_n 1, 1) ∧ decode bytes 2 = .ok (.invokespecial ix, 3) ∧ decode bytes 5 = .ok (.return_, 1) ∧ ∀ a ∈ sm_odd own ic X Y ix bytes ns, G a
theorem sm_atomsOf.mono {own : String} {ic : Nat} {X : String} {names : List String} {G G' : Cond → Prop} (h : sm_atomsOf own ic X names G) (hG : ∀ a, G a → G' a) : sm_atomsOf own ic X names G' := by
  rcases h with h | ⟨Y, ns, ix, bytes, h1, h2, h3, h4, h5, h6⟩
  · exact Or.inl fun a ha => hG a (h a ha)
  · exact Or.inr ⟨Y, ns, ix, bytes, h1, h2, h3, h4, h5, fun a ha => hG a (h6 a ha)⟩
/-! THROWS. A walk may be begun anew from where it stands: then nothing has been written yet. -/
section SMT
variable {p : Program} {l : Launch} {e : Env} {R : Room} {s : State} {m : MethodId} {args : Array Value} {below : List Frame} {meth : Method} {c : Code} {T : State} {locs : List Loc} {cells slots : Nat}
/-- the invocation, made anew in the state that is reached -/
def sm_anew (T : State) (m : MethodId) (args : Array Value) (below : List Frame) : State := T.setFrames (.invoking m args :: below)
theorem sm_rebase (X : Stand p l e R s m args below meth c T locs cells slots) (hcR : cells ≤ R.cells ∧ slots ≤ R.slots) : Stand p l e { R with cells := R.cells - cells, slots := R.slots - slots } (sm_anew T m args below) m args below meth c T [] 0 0 := by
  obtain ⟨g₀, hfr⟩ := X.frames_eq
  have hcur : T.cur < T.threads.size := State.cur_lt_of_frames hfr
  have hf : (sm_anew T m args below).frames = .invoking m args :: below := State.frames_setFrames _ hcur
  have hr := X.room
  have hme : (sm_anew T m args below).me.stackBytes = T.me.stackBytes := State.stackBytes_setFrames T _
  have hb0 : T.me.stackBytes = 0 := X.bytes.trans (State.hasRoom_plain hr)
  have hli : (sm_anew T m args below).localsInUse = s.localsInUse := by
    unfold State.localsInUse
    rw [hf, X.frames]
    show stackWeight _ + ((((T.vm.method? m).bind (·.code)).map (·.maxLocals)).getD 0 + 11) = stackWeight _ + ((((s.vm.method? m).bind (·.code)).map (·.maxLocals)).getD 0 + 11)
    rw [X.method', X.method]
  have h1 := State.hasRoom_heap hr
  have h2 := State.hasRoom_real hr
  have hsz := X.heapSize
  have hus := X.used
  have hst : s.frames.length + R.frames ≤ e.platform.maxFrames ∧ s.localsInUse + R.locals ≤ e.platform.maxStackSlots := by
    simp only [State.hasRoom, Bool.and_eq_true, decide_eq_true_eq] at hr
    exact ⟨hr.1.1.1.2.1, hr.1.1.1.2.2.2.1⟩
  refine ⟨X.admits, X.cas, X.clock, hf, ?_, ?_, X.method', X.code, X.here, X.tail, State.WarmedH.refl T, ?_, hme.symm, ?_⟩
  · refine State.hasRoom_of (hme.trans hb0) ?_ ?_ ?_ ?_ ?_ ?_
    · rw [hf, ← X.frames]; exact hst.1
    · rw [hli]; exact hst.2
    · show T.heap.size + (R.cells - cells) ≤ _
      omega
    · show T.slotsUsed + (R.slots - slots) ≤ _
      omega
    · exact X.book
    · rw [hli]; exact h2
  · have hh := X.hears
    have ha := X.warmed.alike
    cases below with
    | nil => exact (by simpa [State.hears, sm_anew, ha.method?] using hh)
    | cons f r =>
      cases f with
      | java g =>
        have e1 : (sm_anew T m args (.java g :: r)).code? g.method = s.code? g.method := by
          rw [State.code?_eq, State.code?_eq]
          show (T.vm.method? g.method).bind _ = _
          rw [ha.method?]
        simpa [State.hears, e1] using hh
      | _ => first | exact hh | (simpa [State.hears, sm_anew, ha.method?] using hh)
  · show e.platform.stackLimits T.me = e.platform.stackLimits (sm_anew T m args below).me
    rw [Platform.stackLimits_plain hb0, Platform.stackLimits_plain (hme.trans hb0)]
  · have hT : T.setVm (sm_anew T m args below).vm = T := State.setVm_self T
    rw [hT]
    have hd : (T.heap.toList.drop (sm_anew T m args below).heap.size) = [] := List.drop_eq_nil_of_le (by show T.heap.toList.length ≤ T.heap.size; simp)
    refine ⟨?_, Nat.le_refl _, Nat.le_refl _, ?_, ?_, ?_⟩
    · obtain ⟨t, ht, -⟩ := State.frames_cons hfr
      show T = ({ (T.setFrames _).setFrames T.frames with heap := T.heap, slotsUsed := T.slotsUsed } : State)
      rw [State.setFrames_setFrames, State.setFrames_self ht]
    · rw [hd]; rfl
    · rw [hd]; exact Nat.le_refl _
    · intro a c0 ha
      exact ⟨c0, ha, rfl, rfl, fun _ _ => rfl⟩
/-- a step of frames alone changes no words of the tables -/
theorem sm_anew_same {U : State} {L : List Loc} {k n : Nat} (X : Stand p l e R s m args below meth c T locs cells slots) (hB : (sm_anew T m args below).sameButNew ({ U with vm := (sm_anew T m args below).vm } : State) L k n) : s.sameButNew ({ U with vm := s.vm } : State) (locs ++ L) (cells + k) (slots + n) := by
  have hT : T.sameButNew ({ U with vm := T.vm } : State) L k n := by
    obtain ⟨h1, h2, h3, h4, h5, h6⟩ := hB
    refine ⟨?_, h2, h3, h4, h5, h6⟩
    have h1' : ({ U with vm := T.vm } : State) = ({ (T.setFrames (.invoking m args :: below)).setFrames U.frames with heap := U.heap, slotsUsed := U.slotsUsed } : State) := h1
    rw [State.setFrames_setFrames] at h1'
    exact h1'
  exact X.same.trans (hT.setVm s.vm)
/-- what holds when an exception of class X has been made and thrown out of the method -/
def sm_Thr (s : State) (below : List Frame) (X : String) (H : Heap) (locs : List Loc) (cells slots : Nat) (t : State) : Prop :=
  t.status = .running ∧ Ended t below (.threw H.size) ∧ s.WarmedH t.vm ∧ s.sameButNew ({ t with vm := s.vm } : State) locs (cells + 1) (slots + 6) ∧ t.heap.size = H.size + 1 ∧ (∀ q, q < H.size → t.heap[q]? = H[q]?) ∧ ∃ ce, t.heap[H.size]? = some ce ∧ s.vm.findClass X = some ce.cls ∧ ce.vm = .none
variable {H : Heap} {cc : ByteArray} {pc ix il ic : Nat} {LS : Array Slot} {st : List Value} {own X tx : String} {names : List String} {q : Nat} {Ts : List Cond}
theorem sm_ldcwS {Q : State → Prop} {rest : List Value} (hexec : p.tables.exec = Jvm.exec) (hb : c.code = cc) (hown : s.vm.findClass own = some m.cls) (hZ : vk_R own il tx q s) (hdg : decode cc pc = .ok (.ldc_w il, 3))
    (k : W p l e R s m args below meth c H locs cells slots Q (F0 m (pc + 3) LS (.ref q :: rest))) : W p l e R s m args below meth c H locs cells slots Q (F0 m pc LS rest) := by
  intro T hT X0
  obtain ⟨t, a1, b1⟩ := k T hT X0
  refine ⟨t, ?_, b1⟩
  obtain ⟨k, cf, i, a', hk, hcf, hcp, -, hr, hev'⟩ := Cond.stringRef_spec hown hZ.1
  cases hZ.2.symm.trans hev'
  obtain ⟨k', hk', he⟩ := X0.warmed.alike.2.2 _ _ hk
  have hr' : k'.resolved[il]? = some (some (.string q)) := by
    rcases X0.warmed.entry hk hk' il with h | ⟨h, -⟩
    · rw [h]; exact hr
    · rw [hr] at h; cases h
  have hdg' : decode c.code (F0 m pc LS rest).pc = .ok (.ldc_w il, 3) := by rw [hb]; exact hdg
  jvm_step X0.here [hexec, hdg', ldc_w.wp_string (e := e) (s := T) (f := F0 m pc LS rest) X0.here.top hk' (by rw [he]; exact hcf) hcp hr']
  exact a1
set_option maxHeartbeats 4000000 in
theorem sm_throwW {pi : Nat} (hexec : p.tables.exec = Jvm.exec) (htr : e.platform.stackTraces = false) (hb : c.code = cc) (hml : c.maxLocals = LS.size) (hlocks : meth.locks = false) (hnoh : c.exceptionTable.toList = []) (hown : s.vm.findClass own = some m.cls)
    (hts : ∀ w ∈ Ts, w.before args s = true) (hgw : ∀ w ∈ Ts, goodWord w = true)
    (h1 : Cond.classLink own ix X ∈ Ts) (h2 : Cond.instantiable X 6 ∈ Ts) (h3 : Cond.initialized X ∈ Ts) (hX1 : Bundle.fit X = true) (hX2 : ∀ n ∈ names, Bundle.fit n = true)
    (hat : sm_atomsOf own ic X names (fun a => a ∈ Ts ∨ ∀ U : State, s.WarmedH U.vm → U.heap = H → a.before args U = true))
    (hstr : vk_R own il tx q s) (hroom : cells + 1 ≤ R.cells ∧ slots + 6 ≤ R.slots) (hfr : names.length + 3 < R.frames) (hlo : (st.map fun v => v.category).sum + (13 * (names.length + 1) + 43) ≤ R.locals)
    (d0 : decode cc pc = .ok (.new ix, 3)) (d1 : decode cc (pc + 3) = .ok (.dup, 1)) (d2 : (decode cc (pc + 4) = .ok (.ldc il, 2) ∧ pi = pc + 6) ∨ (decode cc (pc + 4) = .ok (.ldc_w il, 3) ∧ pi = pc + 7)) (d3 : decode cc pi = .ok (.invokespecial ic, 3)) (d4 : decode cc (pi + 3) = .ok (.athrow, 1)) :
    W p l e R s m args below meth c H locs cells slots (sm_Thr s below X H locs cells slots) (F0 m pc LS st) := by
  intro T hT X0
  subst hT
  have X1 := sm_rebase X0 ⟨by omega, by omega⟩
  have hW : s.WarmedH (sm_anew T m args below).vm := X0.warmed
  have hwd : ∀ w ∈ Ts, w.before args (sm_anew T m args below) = true := fun w hw => word_at hW (good_of_word (hgw w hw)) (hts w hw)
  have hown' : (sm_anew T m args below).vm.findClass own = some m.cls := by rw [hW.alike.findClass]; exact hown
  obtain ⟨cX, kX, hfX, hkX, -⟩ := Cond.instantiable_spec (hwd _ h2)
  have hW2 : W p l e { R with cells := R.cells - cells, slots := R.slots - slots } (sm_anew T m args below) m args below meth c T.heap [] 0 0 (fun t => t.status = .running ∧ Ended t below (.threw T.heap.size) ∧ (sm_anew T m args below).WarmedH t.vm ∧ (sm_anew T m args below).sameButNew ({ t with vm := (sm_anew T m args below).vm } : State) [] 1 6 ∧ ∃ ce, t.heap[T.heap.size]? = some ce ∧ (sm_anew T m args below).vm.findClass X = some ce.cls ∧ ce.vm = .none) (F0 m pc LS st) := by
    refine W.newcK hexec hb hown' (hwd _ h1) (hwd _ h2) (hwd _ h3) rfl d0 (by show 0 + 1 ≤ R.cells - cells; omega) (by show 0 + 6 ≤ R.slots - slots; omega) hfX rfl fun H1 kC hkC e1 z o => ?_
    refine lv_dup hexec hb d1 rfl ?_
    have hfin : W p l e { R with cells := R.cells - cells, slots := R.slots - slots } (sm_anew T m args below) m args below meth c H1 [] (0 + 1) (0 + 6) (fun t => t.status = .running ∧ Ended t below (.threw T.heap.size) ∧ (sm_anew T m args below).WarmedH t.vm ∧ (sm_anew T m args below).sameButNew ({ t with vm := (sm_anew T m args below).vm } : State) [] 1 6 ∧ ∃ ce, t.heap[T.heap.size]? = some ce ∧ (sm_anew T m args below).vm.findClass X = some ce.cls ∧ ce.vm = .none) (F0 m pi LS (.ref q :: .ref T.heap.size :: .ref T.heap.size :: st)) := by
      intro T2 hT2 X2
      rcases hat with hat | ⟨Y0, ns, ix2, by2, rfl, b0, b1, b2, b5, hat⟩
      · obtain ⟨U, u1, u2, u3, u4, u5, ce, u6, u7⟩ := X2.ctorThrowS hexec htr (own := own) (cls := X) (names := names) (ic := ic) hown' hX1 hX2 (fun a ha => by
            rcases hat a ha with h | h
            · exact hwd a h
            · exact h (sm_anew T m args below) hW rfl) (fun x hx => by cases hx) (a := T.heap.size) hfX hkC (by rw [hT2]; exact e1) (Nat.le_refl _) (msg := .ref q) rfl (g := F0 m pi LS (.ref q :: .ref T.heap.size :: .ref T.heap.size :: st)) rfl (by rw [hml]) rfl rfl (rest := st) rfl (by rw [hb]; exact d3) (by rw [hb]; exact d4) (by rw [hnoh]; exact fun x hx => by cases hx) hfr (by show 2 * 0 + (1 + (st.map fun v => v.category).sum) + _ ≤ R.locals; omega) hlocks
        exact ⟨U, u1, u2, u3, u4, u5, ce, u6, u7.cls, u7.vm⟩
      · have hll : (Y0 :: ns).length = ns.length + 1 := List.length_cons
        exact sm_oddCtor X2 hexec htr (own := own) (cls := X) (names := ns) (ic := ic) hown' hX1 (hX2 _ List.mem_cons_self) (fun n hn => hX2 n (List.mem_cons_of_mem _ hn)) (fun a ha => by
            rcases hat a ha with h | h
            · exact hwd a h
            · exact h (sm_anew T m args below) hW rfl) b0 b1 b2 b5 (fun x hx => by cases hx) (a := T.heap.size) hfX hkC (by rw [hT2]; exact e1) (Nat.le_refl _) (msg := .ref q) rfl (g := F0 m pi LS (.ref q :: .ref T.heap.size :: .ref T.heap.size :: st)) rfl (by rw [hml]) rfl rfl (rest := st) rfl (by rw [hb]; exact d3) (by rw [hb]; exact d4) (by rw [hnoh]; exact fun x hx => by cases hx) hfr (by show 2 * 0 + (1 + (st.map fun v => v.category).sum) + _ ≤ R.locals; omega) hlocks
    rcases d2 with ⟨d2, e0⟩ | ⟨d2, e0⟩
    · subst e0
      exact va_ldcS hexec hb hown' (vk_R.warm hW hstr) d2 hfin
    · subst e0
      exact sm_ldcwS hexec hb hown' (vk_R.warm hW hstr) d2 hfin
  obtain ⟨t, t1, t2, t3, t4, t5, ce, t6, t7, t8⟩ := hW2 T rfl X1
  have hlt : T.heap.size < t.heap.size := (Array.getElem?_eq_some_iff.mp t6).1
  have hle : t.heap.size ≤ T.heap.size + 1 := t5.2.2.1
  refine ⟨t, t1, t2, t3, X0.warmed.trans t4, ?_, by omega, fun q hq => ?_, ce, t6, by rw [← hW.alike.findClass]; exact t7, t8⟩
  · have := sm_anew_same X0 t5
    rw [List.append_nil] at this
    exact this
  · have hq2 : T.heap[q]? = some T.heap[q] := Array.getElem?_eq_getElem hq
    obtain ⟨c', w1, w2, w3, w4⟩ := t5.2.2.2.2.2 q _ hq2
    have w1' : t.heap[q]? = some c' := w1
    rw [w1', hq2]
    have e2 : c'.slots = T.heap[q].slots := by
      apply Array.ext_getElem?
      intro i
      exact w4 i (fun hx => by cases hx)
    rw [w2, e2]
end SMT
