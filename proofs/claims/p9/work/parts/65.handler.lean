/-! HANDLERS: the search through a method's table -/
/-- the first entry (from, to, handler, pool entry, class number) that covers pc and takes class x -/
def sm_find (pc x : Nat) : List (Nat × Nat × Nat × Nat × Nat) → Option Nat
  | [] => none
  | (a, b, hp, _, z) :: r => if a ≤ pc ∧ pc < b then (if z = x then some hp else sm_find pc x r) else sm_find pc x r
/-- classes that cannot be cast -/
def sm_N (D : va_G) (nc : List (Nat × Nat)) (U : State) : Prop := ∀ q ∈ nc, U.vm.assignable (D.1 q.1) (D.1 q.2) = decide (q.1 = q.2)
/-- what the tables must hold of a handler -/
def sm_okH (Ts : List Cond) (cl : List vw_C) (nc : List (Nat × Nat)) (own : String) (x : Nat) (q : Nat × Nat × Nat × Nat × Nat) : Prop :=
  q.2.2.2.1 ≠ 0 ∧ ∃ (Z : String) (T : u_T), cl[q.2.2.2.2]? = some (Z, T, 0) ∧ Cond.classLink own q.2.2.2.1 Z ∈ Ts ∧ ((q.2.2.2.2 = x ∧ (x, x) ∈ nc) ∨ (q.2.2.2.2 ≠ x ∧ (x, q.2.2.2.2) ∈ nc))
section SMH
variable {D : va_G} {cl : List vw_C} {tys : List (ClassId × FieldType)} {N0 : Nat} {cs : Nat → Nat} {Ts : List Cond} {K : sm_H} {nc : List (Nat × Nat)}
variable {p : Program} {l : Launch} {e : Env} {R : Room} {s : State} {m : MethodId} {args : Array Value} {below : List Frame} {meth : Method} {c : Code} {T : State} {locs : List Loc} {cells slots : Nat}
set_option maxHeartbeats 4000000 in
theorem sm_goL (hpl : e.platform.magicAccessors = ({} : Platform).magicAccessors) {own : String} {f : JFrame} {a : Addr} {cell : Cell} {x hp : Nat} {S : State} (hown : s.vm.findClass own = some f.method.cls) (hts : ∀ w ∈ Ts, w.before args s = true) (hK : va_K D cl tys s) (hN : sm_N D nc s)
    (hcell : S.heap[a]? = some cell) (hobj : cell.vm = .none) (hcx : cell.cls = D.1 x) (hxc : ∃ k, s.vm.classes[D.1 x]? = some k) :
    ∀ (al : List (Nat × Nat × Nat × Nat × Nat)) (tl : List ExceptionTableEntry) (vm : Vm), tl.map (fun h => (h.startPc, h.endPc, h.handlerPc, h.catchType)) = al.map (fun q => (q.1, q.2.1, q.2.2.1, q.2.2.2.1)) → (∀ q ∈ al, q.1 ≤ f.pc ∧ f.pc < q.2.1 → sm_okH Ts cl nc own x q) → s.WarmedH vm → sm_find f.pc x al = some hp →
      ∃ vm', s.WarmedH vm' ∧ ∀ (QQ : Handler → Pre) (E : CtlPost) (d : Bool) (acts : List Action), (∀ d', QQ (.found hp) d' acts (S.setVm vm')) → wp (findHandler.go f a tl) QQ E e d acts (S.setVm vm) := by
  intro al
  induction al with
  | nil => intro tl vm _ _ _ hf; simp [sm_find] at hf
  | cons q al ih =>
    intro tl vm hmap hok hW hf
    cases tl with
    | nil => simp at hmap
    | cons t tl =>
      simp only [List.map_cons, List.cons.injEq, Prod.mk.injEq] at hmap
      obtain ⟨⟨m1, m2, m3, m4⟩, hmap⟩ := hmap
      obtain ⟨q1, q2, q3, q4, q5⟩ := q
      dsimp only at m1 m2 m3 m4
      simp only [sm_find] at hf
      by_cases hcov : q1 ≤ f.pc ∧ f.pc < q2
      · rw [if_pos hcov] at hf
        have hcv : covers t f.pc = true := by simp [covers, m1, m2, hcov.1, hcov.2]
        obtain ⟨k0, Z, TZ, k1, k2, k3⟩ := hok _ List.mem_cons_self hcov
        dsimp only at k0 k1 k2 k3
        obtain ⟨cZ, hcZ, hcl⟩ := Cond.classLink_spec hown (hts _ k2) e.platform hpl
        have hDZ : D.1 q5 = cZ := Option.some.inj ((hK.1 q5 _ k1).2.1.symm.trans hcZ)
        obtain ⟨dk, _, _, kt, hd, _, _, _, _, hkt, _, hopen⟩ := hcl.here
        have hcl₀ := hW.classLinks hcl
        have hW' : s.WarmedH (vm.noted f.method.cls q4 (.cls cZ)) := hW.noted hd hopen (State.rightAt_cls hcl)
        have hgv := resolveClass_links e.toSetting hcl₀
        obtain ⟨kx, hkx⟩ := hxc
        obtain ⟨kx', hkx', -⟩ := hW'.alike.2.2 _ _ hkx
        obtain ⟨kt', hkt', -⟩ := hW'.alike.2.2 _ _ hkt
        have hszv : (vm.noted f.method.cls q4 (.cls cZ)).classes.size ≤ vm.classes.size := by no_record
        have hgo := fun (QQ : Handler → Pre) (E : CtlPost) (d : Bool) (acts : List Action) => sm_goClass (e := e) (s := S.setVm vm) (E := E) (d := d) (acts := acts) (f := f) (a := a) (QQ := QQ) (x := t) (t := tl) (cX := cZ) (cell := cell) (vm' := vm.noted f.method.cls q4 (.cls cZ)) hcv (by rw [m4]; exact k0) (by rw [m4]; exact hgv) hszv hcell (fun k z => by rw [hobj] at z; cases z) ⟨kx', by rw [hcx]; exact hkx'⟩ ⟨kt', hkt'⟩
        rcases k3 with ⟨rfl, k3⟩ | ⟨hne, k3⟩
        · rw [if_pos rfl] at hf
          cases hf
          have hasg : (vm.noted f.method.cls q4 (.cls cZ)).assignable cell.cls cZ = true := by
            rw [hW'.alike.assignable, hcx, ← hDZ]
            exact (hN _ k3).trans (decide_eq_true rfl)
          refine ⟨_, hW', fun QQ E d acts hQ => ?_⟩
          rw [hgo QQ E d acts, if_pos hasg, m3]
          exact hQ _
        · rw [if_neg hne] at hf
          have hasg : (vm.noted f.method.cls q4 (.cls cZ)).assignable cell.cls cZ = false := by
            rw [hW'.alike.assignable, hcx, ← hDZ]
            exact (hN _ k3).trans (decide_eq_false (Ne.symm hne))
          obtain ⟨vm', g1, g2⟩ := ih tl _ hmap (fun z hz => hok z (List.mem_cons_of_mem _ hz)) hW' hf
          refine ⟨vm', g1, fun QQ E d acts hQ => ?_⟩
          rw [hgo QQ E d acts, if_neg (by rw [hasg]; decide)]
          exact g2 QQ E _ acts hQ
      · rw [if_neg hcov] at hf
        have hcv : covers t f.pc = false := by
          simp only [covers, m1, m2, Bool.and_eq_false_iff, decide_eq_false_iff_not]
          omega
        obtain ⟨vm', g1, g2⟩ := ih tl vm hmap (fun z hz => hok z (List.mem_cons_of_mem _ hz)) hW hf
        refine ⟨vm', g1, fun QQ E d acts hQ => ?_⟩
        rw [W.findHandler_go_skip hcv]
        exact g2 QQ E d acts hQ
/-- the exception is caught: the walk goes on at the handler -/
theorem sm_caught (X : Stand p l e R s m args below meth c T locs cells slots) {own : String} {a : Addr} {cell : Cell} {x hp : Nat} {g : JFrame} (hg : g.method = m) (al : List (Nat × Nat × Nat × Nat × Nat)) (hal : c.exceptionTable.toList.map (fun h => (h.startPc, h.endPc, h.handlerPc, h.catchType)) = al.map (fun q => (q.1, q.2.1, q.2.2.1, q.2.2.2.1)))
    (hown : s.vm.findClass own = some m.cls) (hts : ∀ w ∈ Ts, w.before args s = true) (hK : va_K D cl tys s) (hN : sm_N D nc s) (hcell : T.heap[a]? = some cell) (hobj : cell.vm = .none) (hcx : cell.cls = D.1 x) (hxc : ∃ k, s.vm.classes[D.1 x]? = some k)
    (hok : ∀ q ∈ al, q.1 ≤ g.pc ∧ g.pc < q.2.1 → sm_okH Ts cl nc own x q) (hf : sm_find g.pc x al = some hp) :
    ∃ vm', Stand p l e R s m args below meth c (T.setVm vm') locs cells slots ∧ ∀ target, Steps p.tables e below ((T.setVm vm').setTop { g with pc := hp, stack := [.ref a] }) target → Steps p.tables e below ((T.setTop g).pushFrame (.throwing a)) target := by
  have hpl : e.platform.magicAccessors = ({} : Platform).magicAccessors := by rw [X.admits.platform]
  obtain ⟨vm', g1, g2⟩ := sm_goL (S := (T.setTop g).pushFrame (.throwing a)) (f := g) (a := a) hpl (by rw [hg]; exact hown) hts hK hN (by rw [Stand.throwing_heap]; exact hcell) hobj hcx hxc al c.exceptionTable.toList T.vm hal hok X.warmed hf
  have hS : ((T.setTop g).pushFrame (.throwing a)).setVm T.vm = (T.setTop g).pushFrame (.throwing a) := by
    have := State.setVm_self ((T.setTop g).pushFrame (.throwing a))
    rw [Stand.throwing_vm] at this
    exact this
  rw [hS] at g2
  refine ⟨vm', X.noted g1, fun target hrest => ?_⟩
  have h : At T g.method c below := by rw [hg]; exact X.here
  have hm : ((T.setTop g).pushFrame (.throwing a)).vm.method? g.method = some meth := by rw [Stand.throwing_vm, hg]; exact X.method'
  obtain ⟨hgo, hw⟩ := h.throwing a
  refine Steps.head hgo hw ?_
  have key : ∀ r : List Frame, (stepThrowing e ((T.setTop g).pushFrame (.throwing a)) a (.java g :: r)).Is ((((T.setTop g).pushFrame (.throwing a)).setVm vm').setFrames (.java { g with pc := hp, stack := [.ref a] } :: r)) [] := by
    intro r
    simp only [stepThrowing, searchFrame, vmDo]
    generalize hr : Sem.go _ e false [] ((T.setTop g).pushFrame (.throwing a)) = res
    obtain ⟨as, rfl, ha⟩ := Sem.eq_ok_of hr (a := Handler.found hp) (s' := ((T.setTop g).pushFrame (.throwing a)).setVm vm') (acts' := []) (by
      rw [wp_bind', W.findHandler_eq hm X.code]
      refine g2 _ _ _ _ (fun d' => ?_)
      simp)
    exact ⟨rfl, ha⟩
  rw [stepThread_throwing (frames_entered h.top _), (key _).1]
  obtain ⟨g₀, hg0⟩ := Option.isSome_iff_exists.mp h.top
  obtain ⟨r, hr⟩ := State.topJava?_eq_some.mp hg0
  have hr2 : (T.setVm vm').frames = .java g₀ :: r := hr
  rw [State.setTop_of_frames _ hr2] at hrest
  rw [hr]
  have e1 : ((((T.setTop g).pushFrame (.throwing a)).setVm vm').setFrames (.java { g with pc := hp, stack := [.ref a] } :: (Frame.java g₀ :: r).tail)) = ((T.setVm vm').setFrames (.java { g with pc := hp, stack := [.ref a] } :: r)) := by
    rw [State.pushFrame, State.setTop_of_frames _ hr]
    show ((((T.setFrames _).setFrames _).setFrames _).setVm vm') = ((T.setFrames _).setVm vm')
    rw [State.setFrames_setFrames, State.setFrames_setFrames]
    rfl
  rw [e1]
  exact hrest
end SMH
