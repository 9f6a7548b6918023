/-! STRING.CHECKINDEX within its range. It reads a static of which no more is known than that it is a reference or null: so it is a step of its own, by a contract. -/
def sm_yS : MethodName := ⟨"java/lang/String", "checkIndex", "(II)V"⟩
def sm_yP : MethodName := ⟨"jdk/internal/util/Preconditions", "checkIndex", "(IILjava/util/function/BiFunction;)I"⟩
def sm_cS : ByteArray := ⟨#[0x1a, 0x1b, 0xb2, 0x04, 0x1d, 0xb8, 0x04, 0x23, 0x57, 0xb1]⟩
def sm_cP : ByteArray := ⟨#[0x1a, 0x9b, 0x00, 0x08, 0x1a, 0x1b, 0xa1, 0x00, 0x0a, 0x2c, 0x1a, 0x1b, 0xb8, 0x00, 0x5f, 0xbf, 0x1a, 0xac]⟩
/-- the static, among what was there before -/
def sm_Zs (N0 : Nat) (U : State) : Prop := va_Zq "jdk/internal/util/Preconditions" "SIOOBE_FORMATTER" "Ljava/util/function/BiFunction;" (fun a => N0 ≤ a) U U.heap
def sm_wP : List Cond := [Cond.code sm_yP sm_cP 3 (some .int)]
def sm_wS : List Cond := [Cond.code sm_yS sm_cS 2 none, .fieldLink "java/lang/String" 1053 "jdk/internal/util/Preconditions" "SIOOBE_FORMATTER" "Ljava/util/function/BiFunction;", .methodLink "java/lang/String" 1059 sm_yP, .static sm_yP, .initialized sm_yP.cls, Cond.code sm_yP sm_cP 3 (some .int)]
def sm_rP : Room := { frames := 0, cells := 0, slots := 0, locals := 0 }
def sm_rS : Room := { frames := 1, cells := 0, slots := 0, locals := 22 }
section SMCHK
variable {l : Launch}
def sm_PP : Array Value → State → Prop := fun v _ => ∃ (i n : Int32) (w : Value), v = [.int i, .int n, w].toArray ∧ ¬ i < 0 ∧ i < n
def sm_QP : Array Value → State → Outcome → State → Prop := fun v s o t => (∃ x, v[0]? = some x ∧ o = .returned (some x)) ∧ t.heap = s.heap
theorem sm_metP : Met l sm_yP sm_wP sm_rP sm_PP sm_QP 0 0 (fun _ => False) := by
  refine Met.ofW (cc := sm_cP) (maxL := 3) (ret := some .int) (by decide +kernel) rfl ?_
  intro p e s m args below meth c s₁ B hml hv
  obtain ⟨i, n, w, rfl, h0, hn⟩ := hv
  rw [lg_entry_eq]
  refine lv_iload_n (k := 0) (i := 0) (x := i) B.exec B.bytes (by decide +kernel) rfl rfl ?_
  refine lv_if_lt (tgt := 9) B.exec B.bytes (off := 8) (by decide +kernel) (by decide) (fun z => absurd z h0) (fun _ => ?_)
  refine lv_iload_n (k := 0) (i := 0) (x := i) B.exec B.bytes (by decide +kernel) rfl rfl ?_
  refine lv_iload_n (k := 1) (i := 1) (x := n) B.exec B.bytes (by decide +kernel) rfl rfl ?_
  refine lv_icmp_lt (tgt := 16) B.exec B.bytes (off := 10) (by decide +kernel) (by decide) (fun _ => ?_) (fun z => absurd hn z)
  refine lv_iload_n (k := 0) (i := 0) (x := i) B.exec B.bytes (by decide +kernel) rfl rfl ?_
  exact W.iret B.exec B.bytes B.returns (fun t ht _ => ⟨⟨_, rfl, rfl⟩, ht⟩) (fun q hq => by cases hq) (by decide +kernel) (hlocks := B.notSynchronized)
def sm_PS (N0 : Nat) : Array Value → State → Prop := fun v U => ∃ (i n : Int32), v = [.int i, .int n].toArray ∧ ¬ i < 0 ∧ i < n ∧ sm_Zs N0 U
def sm_QS : Array Value → State → Outcome → State → Prop := fun _ s o t => o = .returned none ∧ t.heap = s.heap
theorem sm_PPb : FrameBlind sm_PP := fun _ _ _ _ q => q
theorem sm_goodP : GoodIn sm_wS sm_wP := fun w hw => by
  rw [List.mem_singleton.mp hw]
  exact ⟨by simp [sm_wS], good_of_word (by decide +kernel)⟩
theorem sm_metS {N0 : Nat} : Met l sm_yS sm_wS sm_rS (sm_PS N0) sm_QS 0 0 (fun _ => False) := by
  refine Met.ofW (cc := sm_cS) (maxL := 2) (ret := none) (by decide +kernel) rfl ?_
  intro p e s m args below meth c s₁ B hml hv
  obtain ⟨i, n, rfl, h0, hn, hZ⟩ := hv
  have hts := atoms_spec (ws := sm_wS) B.pre
  have hown := findClass_of_methodNamed B.named
  rw [lg_entry_eq]
  refine lv_iload_n (k := 0) (i := 0) (x := i) B.exec B.bytes (by decide +kernel) rfl rfl ?_
  refine lv_iload_n (k := 1) (i := 1) (x := n) B.exec B.bytes (by decide +kernel) rfl rfl ?_
  have hSS : va_S (fun a => N0 ≤ a) s.heap s.heap [] := ⟨Nat.le_refl _, fun _ _ _ => rfl, fun x hx => by cases hx⟩
  have key : ∀ v : Value, W p l e (headSpec sm_wS sm_rS).room s m [Value.int i, Value.int n].toArray below meth c s.heap [] 0 0 (MQ below sm_QS [Value.int i, Value.int n].toArray s 0 0 (fun _ => False)) (F0 m 5 ((lg_sl [Value.int i, Value.int n] ++ List.replicate (2 - (lg_sl [Value.int i, Value.int n]).length) Slot.unset).toArray) [v, .int n, .int i]) := by
    intro v
    have hrun := va_runS (l := l) (p := p) (e := e) (R := (headSpec sm_wS sm_rS).room) (below := below) (meth := meth) (H := s.heap) (locs := []) (cells := 0) (slots := 0) (As := [.int i, .int n, v]) (rest := []) (index := 1059) (g := F0 m 5 ((lg_sl [Value.int i, Value.int n] ++ List.replicate (2 - (lg_sl [Value.int i, Value.int n]).length) Slot.unset).toArray) [v, .int n, .int i]) (own := "java/lang/String") (cc := sm_cS) (nL := 2) (Ts := sm_wS) ⟨B.exec, B.bytes, hml, hown, hts⟩ (sm_metP (l := l)) ⟨callB_of 3 hts sm_goodP rfl rfl rfl (hts _ (by simp [sm_wS])) (hts _ (by simp [sm_wS])) ⟨by decide, by decide, by decide +kernel⟩ ⟨by decide, by decide⟩, hts _ (by simp [sm_wS])⟩ ⟨sm_PPb, fun U _ _ => ⟨i, n, v, rfl, h0, hn⟩⟩ rfl rfl rfl rfl (show 2 * 0 + 0 ≤ 8 by decide) (show decode sm_cS 5 = .ok (.invokestatic 1059, 3) by decide +kernel) ⟨Nat.le_refl _, Nat.le_refl _⟩
    intro T hT X
    obtain ⟨v', st₀, t, T', L, e0, X', hL, e1, e2, ⟨⟨x, hx, hv⟩, hh⟩, st⟩ := hrun T hT X
    cases hv
    cases hx
    have hLn : L = [] := List.eq_nil_iff_forall_not_mem.mpr fun q hq => hL q hq
    subst hLn
    have hheap : T'.heap = s.heap := by rw [e1, hh, e0]
    have kk : W p l e (headSpec sm_wS sm_rS).room s m [Value.int i, Value.int n].toArray below meth c s.heap [] 0 0 (MQ below sm_QS [Value.int i, Value.int n].toArray s 0 0 (fun _ => False)) (F0 m 8 ((lg_sl [Value.int i, Value.int n] ++ List.replicate (2 - (lg_sl [Value.int i, Value.int n]).length) Slot.unset).toArray) [.int i]) := by
      refine lv_pop B.exec B.bytes (by decide +kernel) rfl ?_
      exact W.vret B.exec B.bytes B.returns (fun t ht _ => ⟨rfl, ht⟩) (fun q hq => by cases hq) (by decide +kernel) (hlocks := B.notSynchronized)
    obtain ⟨t2, a1, b1⟩ := kk T' hheap X'
    exact ⟨t2, st t2 a1, b1⟩
  rcases hZ with hZ | ⟨t, hZ⟩
  · exact va_gets B.exec B.bytes hZ hSS hown (hts (.fieldLink "java/lang/String" 1053 "jdk/internal/util/Preconditions" "SIOOBE_FORMATTER" "Ljava/util/function/BiFunction;") (by simp [sm_wS])) (fun x hx => hx) (by decide +kernel) (key _)
  · exact va_gets B.exec B.bytes hZ hSS hown (hts (.fieldLink "java/lang/String" 1053 "jdk/internal/util/Preconditions" "SIOOBE_FORMATTER" "Ljava/util/function/BiFunction;") (by simp [sm_wS])) (fun x hx => hx) (by decide +kernel) (key _)
variable {p : Program} {e : Env} {R : Room} {s : State} {m : MethodId} {args : Array Value} {below : List Frame} {meth : Method} {c : Code} {H : Heap} {locs : List Loc} {cells slots : Nat} {Q : State → Prop} {cc : ByteArray} {pc N0 : Nat} {LS : Array Slot} {rest : List Value} {Ts : List Cond} {own : String} {index : Nat}
theorem sm_PSb : FrameBlind (sm_PS N0) := fun a U g mk q => by
  obtain ⟨i, n, h1, h2, h3, h4⟩ := q
  exact ⟨i, n, h1, h2, h3, va_Zq.moved (u := U) (U := U.calling g mk a) (Vm.Alike.refl U.vm) h4⟩
theorem sm_goodS (hin : ∀ w ∈ sm_wS, w ∈ Ts) : GoodIn Ts sm_wS := fun w hw => ⟨hin w hw, good_of_word (by
  have h : sm_wS.all goodWord = true := by decide +kernel
  exact List.all_eq_true.mp h w hw)⟩
/-- the step -/
theorem sm_chk (hexec : p.tables.exec = Jvm.exec) (hb : c.code = cc) (hml : c.maxLocals = LS.size) (hown : s.vm.findClass own = some m.cls) (hts : ∀ w ∈ Ts, w.before args s = true) (hin : ∀ w ∈ sm_wS, w ∈ Ts) (hlink : Cond.methodLink own index sm_yS ∈ Ts) (hstat : Cond.static sm_yS ∈ Ts) (hini : Cond.initialized "java/lang/String" ∈ Ts) (hZ : sm_Zs N0 s) (hF : ∀ q, q < N0 → H[q]? = s.heap[q]?)
    (hR : 2 ≤ R.frames ∧ 43 ≤ R.locals) (hc : cells ≤ R.cells) (hsl : slots ≤ R.slots) {i n : Int32} (h0 : ¬ i < 0) (hn : i < n) (hW : (rest.map fun v => v.category).sum ≤ 8) (hdg : decode cc pc = .ok (.invokestatic index, 3))
    (kk : W p l e R s m args below meth c H locs cells slots Q (F0 m (pc + 3) LS rest)) : W p l e R s m args below meth c H locs cells slots Q (F0 m pc LS (.int n :: .int i :: rest)) := by
  have hrun := va_runS (l := l) (p := p) (e := e) (R := R) (below := below) (meth := meth) (H := H) (locs := locs) (cells := cells) (slots := slots) (As := [.int i, .int n]) (rest := rest) (index := index) (g := F0 m pc LS (.int n :: .int i :: rest)) (own := own) (cc := cc) (nL := LS.size) (Ts := Ts) ⟨hexec, hb, hml, hown, hts⟩ (sm_metS (l := l) (N0 := N0)) ⟨callB_of 2 hts (sm_goodS hin) rfl rfl rfl (hts _ hini) (hts _ hlink) ⟨by decide, by decide, by decide +kernel⟩ ⟨hR.1, hR.2⟩, hts _ hstat⟩ ⟨sm_PSb, fun U hU hW => ⟨i, n, rfl, h0, hn, va_Zq.moved hW.alike (va_Zq.kept hZ (fun a _ h2 => by rw [hU]; exact hF a (Nat.not_le.mp h2)))⟩⟩ rfl rfl rfl rfl (by show 2 * 0 + _ ≤ 8; omega) hdg ⟨hc, hsl⟩
  intro T hT X
  obtain ⟨v', st₀, t, T', L, e0, X', hL, e1, e2, ⟨hv, hh⟩, st⟩ := hrun T hT X
  cases hv
  have hLn : L = [] := List.eq_nil_iff_forall_not_mem.mpr fun q hq => hL q hq
  subst hLn
  rw [List.append_nil] at X'
  obtain ⟨t2, a1, b1⟩ := kk T' (by rw [e1, hh, e0]) X'
  exact ⟨t2, st t2 a1, b1⟩
end SMCHK
