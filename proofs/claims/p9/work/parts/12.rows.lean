/-! ROWS: what an instruction that writes or makes cells does to a picture -/
/-- the array classes, by their numbers -/
def sm_T (tys : List (ClassId × FieldType)) : Prop := ∀ (t : Nat) (ty : FieldType), sm_ty t = some ty → ∃ cA, tys[t]? = some (cA, ty)
/-- how many slots a cell has -/
def sm_sz (e : sm_E) : Nat := match e with
  | .inl (_, n, _) => n
  | .inr (_, fs) => fs.length
def sm_sl (h : sm_H) : Nat := (h.map sm_sz).sum
theorem sm_sl_app (h : sm_H) (e : sm_E) : sm_sl (h ++ [e]) = sm_sl h + sm_sz e := by simp [sm_sl]
theorem sm_sl_set {e e' : sm_E} (he : sm_sz e' = sm_sz e) : ∀ (h : sm_H) (k : Nat), h[k]? = some e → sm_sl (h.set k e') = sm_sl h := by
  intro h
  induction h with
  | nil => intro k hk; simp at hk
  | cons x h ih =>
    intro k hk
    cases k with
    | zero =>
      simp at hk
      subst hk
      simp [sm_sl, he]
    | succ k =>
      have := ih k (by simpa using hk)
      simp [sm_sl] at this ⊢
      exact this
section SMR
variable {p : Program} {l : Launch} {e : Env} {R : Room} {s : State} {m : MethodId} {args : Array Value} {below : List Frame} {meth : Method} {c : Code} {H : Heap} {locs : List Loc} {cells slots : Nat} {Q : State → Prop}
variable {cc : ByteArray} {pc : Nat} {ls : Array Slot} {rest : List Value} {D : va_G} {cl : List vw_C} {tys : List (ClassId × FieldType)} {N0 : Nat} {cs : Nat → Nat} {K h : sm_H}
/-- one cell is set to another picture -/
theorem sm_P.put {k : Nat} {e0 e1 : sm_E} {H1 : Heap} (hP : sm_P D cl tys N0 cs K h H) (hk : h[k]? = some e0) (hC : sm_C ≤ k) (ha : va_at D cl (sm_ad N0 cs k, sm_me (sm_ad N0 cs) tys e1) H1) (hz : H1.size = H.size) (ho : ∀ q, q ≠ sm_ad N0 cs k → H1[q]? = H[q]?) : sm_P D cl tys N0 cs K (h.set k e1) H1 := by
  refine ⟨by rw [hz, List.length_set]; exact hP.1, by rw [List.length_set]; exact hP.2.1, fun j hj => ⟨(hP.2.2.1 j hj).1, by rw [List.getElem?_set_ne (by omega)]; exact (hP.2.2.1 j hj).2⟩, fun j e hjC hj => ?_⟩
  by_cases hjk : k = j
  · subst hjk
    rw [List.getElem?_set_self (List.getElem?_eq_some_iff.mp hk).1] at hj
    cases hj
    exact ha
  · rw [List.getElem?_set_ne hjk] at hj
    refine (hP.2.2.2 j e hjC hj).kept (ho (sm_ad N0 cs j) ?_)
    rw [sm_ad_ge hC, sm_ad_ge hjC]
    omega
/-- one cell is made -/
theorem sm_P.make {e1 : sm_E} {H1 : Heap} (hP : sm_P D cl tys N0 cs K h H) (ha : va_at D cl (H.size, sm_me (sm_ad N0 cs) tys e1) H1) (hz : H1.size = H.size + 1) (ho : ∀ q, q < H.size → H1[q]? = H[q]?) : sm_P D cl tys N0 cs K (h ++ [e1]) H1 := by
  have hs := hP.1
  have hl := hP.2.1
  refine ⟨by rw [hz, List.length_append, List.length_singleton]; omega, by rw [List.length_append, List.length_singleton]; omega, fun j hj => ⟨(hP.2.2.1 j hj).1, by rw [List.getElem?_append_left (by omega)]; exact (hP.2.2.1 j hj).2⟩, fun j e hjC hj => ?_⟩
  by_cases hjl : j < h.length
  · rw [List.getElem?_append_left hjl] at hj
    exact (hP.2.2.2 j e hjC hj).kept (ho _ (hP.2.2.2 j e hjC hj).lt)
  · rw [List.getElem?_append_right (by omega)] at hj
    have hz2 : j - h.length < 1 := (List.getElem?_eq_some_iff.mp hj).1
    have hj0 : j = h.length := by omega
    subst hj0
    simp at hj
    subst hj
    rw [sm_ad_ge hl, show N0 + (h.length - sm_C) = H.size by omega]
    exact ha
theorem sm_top (hP : sm_P D cl tys N0 cs K h H) : H.size = sm_ad N0 cs h.length := by
  have hs := hP.1
  have hl := hP.2.1
  rw [sm_ad_ge hl]
  omega
theorem sm_fit_ok {t : Nat} {v : Value} {ad : Nat → Nat} {ty : FieldType} (hf : sm_fit t v = true)
    (ht : (t = 0 ∧ ty = .int) ∨ (t = 1 ∧ ty = .long) ∨ (t = 2 ∧ ((∃ n, ty = .object n) ∨ ∃ n, ty = .array n)) ∨ (t = 3 ∧ ty = .boolean) ∨ (t = 4 ∧ ty = .char)) : narrow ty (sm_mv ad v) = sm_mv ad v ∧ fits ty (sm_mv ad v) = true := by
  rcases ht with ⟨rfl, rfl⟩ | ⟨rfl, rfl⟩ | ⟨rfl, ⟨n, rfl⟩ | ⟨n, rfl⟩⟩ | ⟨rfl, rfl⟩ | ⟨rfl, rfl⟩
  · cases v <;> simp [sm_fit] at hf <;> exact ⟨rfl, rfl⟩
  · cases v <;> simp [sm_fit] at hf <;> exact ⟨rfl, rfl⟩
  · cases v <;> simp [sm_fit] at hf <;> exact ⟨rfl, rfl⟩
  · cases v <;> simp [sm_fit] at hf <;> exact ⟨rfl, rfl⟩
  · cases v with
    | int x =>
      simp [sm_fit] at hf
      rcases hf with rfl | rfl <;> exact ⟨rfl, rfl⟩
    | _ => simp [sm_fit] at hf
  · cases v with
    | int x =>
      simp [sm_fit] at hf
      obtain ⟨j, hj, rfl⟩ := nI_of2 (x := x) (M := 65535) (n := 65535) (by decide) (Int32.not_lt.mpr hf.1) hf.2
      exact pk_charN (by omega)
    | _ => simp [sm_fit] at hf
theorem sm_Wput (hexec : p.tables.exec = Jvm.exec) (hb : c.code = cc) {own ref C : String} {T : u_T} {N ci index : Nat} {Ts : List Cond} (hts : ∀ w ∈ Ts, w.before args s = true) (hin : ∀ w ∈ u_ws C T N, w ∈ Ts) (ty0 : Nat → FieldType) (hty : ∀ k, k < N → parseFieldDescriptor (T k).2.2.1 = some (ty0 k)) (hnm : ∀ a, a < N → ∀ b, b < N → a ≠ b → (T a).2.1 ≠ (T b).2.1) (hown : s.vm.findClass own = some m.cls) (hK : va_K D cl tys s) {a : Nat} {fs : List Value} (he : va_at D cl (a, .inr (ci, fs)) H) (hc : cl[ci]? = some (C, T, N)) (k : Nat) (hk : k < N) (hlink : (Cond.fieldLink own index ref (T k).2.1 (T k).2.2.1).before args s = true) (hsame : ∀ x, s.fieldFound? (T k).1 (T k).2.1 (T k).2.2.1 = some x → s.fieldFound? ref (T k).2.1 (T k).2.2.1 = some x) (hfin : (T k).2.2.2 = false ∨ ((T k).2.2.2 = true ∧ meth.name = "<init>" ∧ (T k).1 = own)) {v : Value} (hn : narrow (ty0 k) v = v) (hfit : fits (ty0 k) v = true) (hl : k < fs.length)
    (hdg : decode cc pc = .ok (.putfield index, 3)) (kk : ∀ (H1 : Heap) (j : Nat), va_at D cl (a, .inr (ci, fs.set k v)) H1 → H1.size = H.size → (∀ q, q ≠ a → H1[q]? = H[q]?) → W p l e R s m args below meth c H1 (locs ++ [⟨a, j⟩]) cells slots Q (F0 m (pc + 3) ls rest)) : W p l e R s m args below meth c H locs cells slots Q (F0 m pc ls (v :: .ref a :: rest)) := by
  have hap := va_apart (own := own) hts hin ty0 hty hnm hK hc
  have hd := hty k hk
  obtain ⟨r, h1, cell, q1, q2, q3, q4⟩ := he
  have hr : r = (C, T, N) := Option.some.inj (h1.symm.trans hc)
  subst hr
  obtain ⟨hS, hfc, kC, hkC, hkind⟩ := hK.1 ci _ hc
  obtain ⟨cf, kf, fi, f, hi, hsl⟩ := hS k hk
  have hlay := hts _ (hin _ (u_in_lay hk))
  have hst := (u_facts hfc hkC (u_lays hts hin hk) hi).1
  have last : ∀ H' : Heap, H'[a]? = some (cell.setSlot (D.2 ci k) v) → va_at D cl (a, .inr (ci, fs.set k v)) H' := fun H' e1 => ⟨_, hc, t_OB.to (V := updV (vp_V fs) k v) ⟨_, e1, q2, q3, t_set q4 hap hk v⟩ (fun j _ => vp_updV_set hl v j)⟩
  rcases hfin with hfin | ⟨hfin, hin2, hdecl⟩
  · unfold u_lay at hlay
    rw [if_neg (by rw [hfin]; decide)] at hlay
    have h6 := u_store hfc hkC hkind hlay hi hd hn hfit
    refine W.putK hexec hb (f := f) ⟨hown, hlink, ⟨_, _, _, hsame _ hi⟩, hst⟩ (by rw [q2]; exact h6) q1 q3 (by rw [hsl]; exact k2_hasslot (q4 k hk)) rfl rfl hdg fun H' e1 e2 e3 => ?_
    rw [hsl] at e1 ⊢
    exact kk H' _ (last H' e1) e2 e3
  · unfold u_lay at hlay
    rw [if_pos hfin] at hlay
    have hcf : m.cls = cf := by
      obtain ⟨_, _, c', _, _, _, -, -, hf', -, -, -, hown2, -⟩ := Cond.laysFinal_spec hlay
      have e1 : c' = cf := by have := hi.symm.trans hf'; simp at this; exact this.1.symm
      rw [hdecl] at hown2
      rw [← e1]; exact Option.some.inj (hown.symm.trans hown2)
    have h6 := u_fits hfc hkC hkind (Or.inr hlay) hi hd hn hfit
    refine W.putFinK hexec hb hown hlink (hsame _ hi) hst hcf hin2 (by rw [q2]; exact h6) q1 q3 (by rw [hsl]; exact k2_hasslot (q4 k hk)) rfl rfl hdg fun H' e1 e2 e3 => ?_
    rw [hsl] at e1 ⊢
    exact kk H' _ (last H' e1) e2 e3
theorem sm_in {x : Int32} {n : Nat} (h : sm_ix x n = true) : vp_in x n := by
  simp [sm_ix] at h
  intro z
  rcases z with z | z
  · exact absurd z (Int32.not_lt.mpr h.1)
  · omega
theorem sm_upd_i (cA : ClassId) (n k : Nat) (f : Nat → Int32) (x : Int32) : (vp_cell cA (n, .inl f)).setSlot k (.int x) = vp_cell cA (n, .inl (upd f k x)) := by
  rw [vp_cell_i, vp_cell_i, arrV_store]
  congr 1
  funext q
  by_cases hq : q = k
  · subst hq
    simp [updV, upd]
  · simp [updV, upd, hq]
theorem sm_upd_l (cA : ClassId) (n k : Nat) (f : Nat → Int64) (x : Int64) : (vp_cell cA (n, .inr (.inl f))).setSlot k (.long x) = vp_cell cA (n, .inr (.inl (vp_updL f k x))) := by
  rw [vp_cell_l, vp_cell_l, arrV_store]
  congr 1
  funext q
  by_cases hq : q = k
  · subst hq
    simp [updV, vp_updL]
  · simp [updV, vp_updL, hq]
theorem sm_tys {t : Nat} {ty : FieldType} (hT : sm_T tys) (ht : sm_ty t = some ty) : tys[t]? = some ((tys.getD t (0, .int)).1, ty) := by
  obtain ⟨cA, hc⟩ := hT t ty ht
  rw [hc, List.getD_eq_getElem?_getD, hc]
  rfl
theorem sm_nchr (x : Int32) : narrow .char (.int x) = .int (sm_chr x) := congrArg Value.int (lg_i2c_nf x).symm
end SMR
