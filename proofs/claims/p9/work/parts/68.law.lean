/-! THE LAW's OWN RUN: it calls methods, and methods with handlers -/
def sm_runL (P : Nat → Option sm_M) (PW : Nat → Option sm_MW) (tab : List (Option sm_I)) : Nat → Nat → Nat → sm_L → List Value → sm_H → Option (Option Value × sm_H)
  | 0, _, _, _, _, _ => none
  | n + 1, d, pc, ls, st, h => match tab[pc]? with
      | some (some q) => match sm_step q pc ls st h with
        | some (.inl (pc', ls', st', h')) => sm_runL P PW tab n d pc' ls' st' h'
        | some (.inr (.inl v)) => some (v, h)
        | some (.inr (.inr (m', as, r))) => match d with
          | d' + 1 => match PW m' with
            | some ((nl, _, _), _) => if (sm_slots as).length ≤ nl ∧ (r.map fun v => v.category).sum ≤ 8 then (match sm_runW P PW n d' m' 0 (sm_entry nl as) [] h with
              | some (v, h') => sm_runL P PW tab n d (pc + 3) ls (sm_back v r) h'
              | none => none) else none
            | none => match P m' with
              | some (nl, _, _) => if (sm_slots as).length ≤ nl ∧ (r.map fun v => v.category).sum ≤ 8 then (match sm_run P n d' m' 0 (sm_entry nl as) [] h with
                | some (v, h') => sm_runL P PW tab n d (pc + 3) ls (sm_back v r) h'
                | none => none) else none
              | none => none
          | 0 => none
        | none => none
      | _ => none
theorem sm_runL_mono {P : Nat → Option sm_M} {PW : Nat → Option sm_MW} {tab : List (Option sm_I)} : ∀ (n d pc : Nat) (ls : sm_L) (st : List Value) (h : sm_H) (v : Option Value) (h' : sm_H), sm_runL P PW tab n d pc ls st h = some (v, h') → h.length ≤ h'.length ∧ sm_sl h ≤ sm_sl h' := by
  intro n
  induction n with
  | zero => intro d pc ls st h v h' hr; simp [sm_runL] at hr
  | succ n ih =>
    intro d pc ls st h v h' hr
    unfold sm_runL at hr
    split at hr
    · split at hr
      · next hs =>
        have h1 := sm_step_mono hs
        have h2 := ih _ _ _ _ _ _ _ hr
        exact ⟨Nat.le_trans h1.1 h2.1, Nat.le_trans h1.2 h2.2⟩
      · cases hr; exact ⟨Nat.le_refl _, Nat.le_refl _⟩
      · split at hr
        · split at hr
          · split at hr
            · split at hr
              · next hc =>
                have g1 := sm_runW_mono _ _ _ _ _ _ _ _ _ hc
                have g2 := ih _ _ _ _ _ _ _ hr
                exact ⟨Nat.le_trans g1.1 g2.1, Nat.le_trans g1.2 g2.2⟩
              · cases hr
            · cases hr
          · split at hr
            · split at hr
              · split at hr
                · next hc =>
                  have g1 := sm_run_mono _ _ _ _ _ _ _ _ _ hc
                  have g2 := ih _ _ _ _ _ _ _ hr
                  exact ⟨Nat.le_trans g1.1 g2.1, Nat.le_trans g1.2 g2.2⟩
                · cases hr
              · cases hr
            · cases hr
        · cases hr
      · cases hr
    · cases hr
abbrev sm_hh (al : List (Nat × Nat × Nat × Nat × Nat)) : List (Nat × Nat × Nat × Nat) := al.map (fun q => (q.1, q.2.1, q.2.2.1, q.2.2.2.1))
section SML
variable {l : Launch} {D : va_G} {cl : List vw_C} {tys : List (ClassId × FieldType)} {N0 : Nat} {cs : Nat → Nat} {Ts : List Cond} {sx : List (String × Nat × String × Nat)} {zx : List (String × String × String × Nat)} {oc : (List (Nat × Nat × String × String × String × Value) × List (String × Nat × MethodName × String) × List MethodName)} {K : sm_H} {Y YW : Nat → sm_Y} {P : Nat → Option sm_M} {PW : Nat → Option sm_MW} {ex : List Cond} {nc : List (Nat × Nat)}
/-- what a method with handlers asks of its start -/
def sm_PcW (D : va_G) (cl : List vw_C) (tys : List (ClassId × FieldType)) (sx : List (String × Nat × String × Nat)) (zx : List (String × String × String × Nat)) (oc : (List (Nat × Nat × String × String × String × Value) × List (String × Nat × MethodName × String) × List MethodName)) (K : sm_H) (ex : List Cond) (nc : List (Nat × Nat)) (N0 : Nat) (cs : Nat → Nat) (as : List Value) (h : sm_H) : Array Value → State → Prop :=
  fun v U => sm_PcT D cl tys sx zx oc K ex N0 cs as h v U ∧ sm_N D nc U
theorem sm_blindW {as : List Value} {h : sm_H} : FrameBlind (sm_PcW D cl tys sx zx oc K ex nc N0 cs as h) := fun a U g mk q => ⟨sm_blindT a U g mk q.1, fun z hz => q.2 z hz⟩
theorem sm_metW (hG : sm_Good Ts sx zx oc K cl Y P) (hGT : sm_GoodT Ts sx ex cl Y P) (hGW : ∀ mi M, PW mi = some M → sm_okW Ts sx zx oc K cl nc Y YW mi M) (hgw : ∀ w ∈ Ts, goodWord w = true) (hT : sm_T tys) (hfl : l.flags = pinnedFlags ++ [noTraceFlag])
    {n d mi : Nat} {M : sm_MW} {as : List Value} {h h' : sm_H} {v : Option Value} (hM : PW mi = some M) (hr : sm_runW P PW n d mi 0 (sm_entry M.1.1 as) [] h = some (v, h')) (hl : (sm_slots as).length ≤ M.1.1) :
    Met l (YW mi).1 (Cond.codeWith (YW mi).1 (YW mi).2.1 M.1.1 (YW mi).2.2 (sm_hh M.2) :: Ts) (sm_roomW d (h'.length - h.length) (sm_sl h' - sm_sl h)) (sm_PcW D cl tys sx zx oc K ex nc N0 cs as h) (sm_Qc D cl tys N0 cs K v h') (h'.length - h.length) (sm_sl h' - sm_sl h) (fun q => N0 ≤ q) := by
  obtain ⟨-, g2, -⟩ := hGW mi M hM
  refine va_MetW (cc := (YW mi).2.1) (maxL := M.1.1) (ret := (YW mi).2.2) g2 rfl ?_
  intro p e s m args below meth c s₁ B hml hv
  obtain ⟨⟨⟨rfl, hP, hK, hS⟩, hEx⟩, hN⟩ := hv
  have hts := atoms_spec (ws := Cond.codeWith (YW mi).1 (YW mi).2.1 M.1.1 (YW mi).2.2 (sm_hh M.2) :: Ts) B.pre
  obtain ⟨m9, meth9, c9, z1, z2, z3, -, -, z6, -⟩ := Cond.codeWith_spec (hts _ List.mem_cons_self)
  cases B.named.symm.trans z1
  cases B.method.symm.trans z2
  cases (Stand.of_body B).code.symm.trans z3
  rw [lg_entry_eq]
  have := sm_soundW hG hGT hGW hgw hT hfl n d mi 0 (sm_entry M.1.1 as) [] h v h' M hM hr (by simp [sm_entry]; omega) p e s m _ below meth c s.heap [] _ h B.exec B.bytes B.returns hml z6 (findClass_of_methodNamed B.named) (name_of_methodNamed B.named B.method).1 (fun w hw => hts w (List.mem_cons_of_mem _ hw)) hEx hN B.notSynchronized hK hS hP (sm_entry_LR hl) (fun _ _ => rfl) (Nat.le_refl _) (fun x hx => by cases hx) (Nat.le_refl _) (Nat.le_refl _)
  rw [Nat.sub_self, Nat.sub_self] at this
  exact this
variable {p : Program} {e : Env} {R : Room} {s : State} {m : MethodId} {args : Array Value} {below : List Frame} {meth : Method} {c : Code} {H : Heap} {locs : List Loc} {cells slots : Nat} {Q : State → Prop}
/-- a static call of a method with handlers -/
theorem sm_runSW {y : MethodName} {bytes cc : ByteArray} {maxL nL mc ms n index : Nat} {ret : Option FieldType} {hh : List (Nat × Nat × Nat × Nat)} {ws : List Cond} {rm : Room} {Pc : Array Value → State → Prop} {Qc : Array Value → State → Outcome → State → Prop} {free : Addr → Prop} {own : String} {As rest : List Value} {g : JFrame}
    (S : CallFix p m c cc nL s args Ts own) (hM : Met l y ws rm Pc Qc mc ms free) (hrc : rm.cells = mc) (hrs : rm.slots = ms) (hR : rm.frames + 1 ≤ R.frames ∧ 8 + (maxL + 11) + rm.locals ≤ R.locals) (hws : ∀ w ∈ ws, ∀ (a' : Array Value) (U : State), s.WarmedH U.vm → w.before a' U = true) (hcw : Cond.codeWith y bytes maxL ret hh ∈ ws)
    (hcode : (Cond.codeWith y bytes maxL ret hh).before args s = true) (hini : (Cond.initialized y.cls).before args s = true) (hstat : (Cond.static y).before args s = true) (hlink : (Cond.methodLink own index y).before args s = true) (hy : sm_nmh y.cls) (hpar : sm_par y.desc = some n) (hp : PreS s H Pc As)
    (hg : g.method = m) (hn : As.length = n) (hsize : g.locals.size = nL) (hstack : g.stack = As.reverse ++ rest) (hW : 2 * g.monitorRoom + (rest.map fun v => v.category).sum ≤ 8) (hdg : decode cc g.pc = .ok (.invokestatic index, 3)) (hf : cells + mc ≤ R.cells ∧ slots + ms ≤ R.slots) :
    va_Run p l e R s m args below meth c H locs cells slots mc ms g rest (Qc As.toArray) free := by
  have hK : Back l R p e below s args y 3 8 (PreOf R mc ms Pc) (PostOf Qc mc ms free) := va_backW (bytes := bytes) (maxL := maxL) (ret := ret) (hh := hh) hM hp.1 hrc hrs hR.1 hR.2 hws hcw (fun a' U hW => word_at hW (Or.inl (by first | rfl | simp [Cond.onTables, Cond.keeps, Cond.steady])) hini)
  obtain ⟨hx, hb, hml, ho, -⟩ := S
  obtain ⟨mk, methM, cM, hnamed, hmethM, -, -, -, -, -, -, hsigM⟩ := Cond.codeWith_spec hcode
  have hstatic : methM.isStatic = true := Cond.static_spec hnamed hmethM hstat
  obtain ⟨kP, hkP, -⟩ := className_of_methodNamed hnamed
  have hinitP : kP.init = .initialized := Cond.initialized_spec (findClass_of_methodNamed hnamed) hkP hini
  intro T hT X
  obtain ⟨vm₁, X₁, hstep₁⟩ := X.invokestatic hx ho hlink hnamed hmethM hstatic hkP hinitP hy (g := g) hg (argsL := As) (rest := rest) (by
      have h2 := hpar
      unfold sm_par at h2
      rw [hsigM] at h2
      exact hn.trans (Option.some.inj h2).symm) hstack (by rw [hb]; exact hdg)
  obtain ⟨v, ⟨U', l2, c2, s2⟩, X', ⟨g', mk', t, L, e1, e2, hq, h1, hL, h2, h3⟩, st⟩ := hK m meth c ⟨T.setVm vm₁, locs, cells, slots⟩ { g with stack := rest } (.invokestatic index) mk As.toArray X₁ hg (hsize.trans hml.symm) (by rw [hb]; exact hdg) hW (X₁.named hnamed) ⟨hf.1, hf.2, hp.2 (T.setVm vm₁) hT X₁.warmed⟩
  dsimp only [Pt.U, Pt.locs, Pt.cells, Pt.slots] at X' e1 e2 h1 h2 h3 st
  subst h1; subst h2; subst h3
  exact ⟨v, (T.setVm vm₁).calling g' mk' As.toArray, t, U', L, hT, X', hL, e1, e2, hq, fun target h => hstep₁ _ fun acts => by rw [doInvoke_state]; exact st.trans h⟩
end SML
