/-! THE WALK'S MACHINE: what lies on the stack -/
def wk_st (h : sm_H) : Nat → List wk_E
  | 0 => []
  | n + 1 => (mi_a h 165 n, mi_a h 166 n, mi_a h 167 n) :: wk_st h n
def wk_stk (h : sm_H) : List wk_E := wk_st h (mi_f h 14029).toNat
theorem wk_st_len (h : sm_H) : ∀ n, (wk_st h n).length = n := by
  intro n
  induction n with
  | zero => rfl
  | succ n ih => unfold wk_st; rw [List.length_cons, ih]
theorem wk_stk_len {h : sm_H} (h0 : 0 ≤ mi_f h 14029) : ((wk_stk h).length : Int) = mi_f h 14029 := by
  unfold wk_stk
  rw [wk_st_len]
  omega
theorem wk_st_eq {h h' : sm_H} : ∀ n, (∀ i, i < n → mi_a h' 165 i = mi_a h 165 i ∧ mi_a h' 166 i = mi_a h 166 i ∧ mi_a h' 167 i = mi_a h 167 i) → wk_st h' n = wk_st h n := by
  intro n
  induction n with
  | zero => intro _; rfl
  | succ n ih =>
    intro hi
    unfold wk_st
    obtain ⟨e1, e2, e3⟩ := hi n (Nat.lt_succ_self n)
    rw [ih (fun i h => hi i (Nat.lt_succ_of_lt h)), e1, e2, e3]
section WKP
variable {h h' : sm_H} {z0 z1 z2 y0 y1 y2 : Int}
theorem wk_push1 (t0 : 0 ≤ mi_f h 14029) (ht : mi_f h' 14029 = mi_f h 14029 + 1) (a5 : ∀ i, mi_a h' 165 i = if i = Int.toNat (mi_f h 14029) then z0 else mi_a h 165 i) (a6 : ∀ i, mi_a h' 166 i = if i = Int.toNat (mi_f h 14029) then z1 else mi_a h 166 i) (a7 : ∀ i, mi_a h' 167 i = if i = Int.toNat (mi_f h 14029) then z2 else mi_a h 167 i) : wk_stk h' = (z0, z1, z2) :: wk_stk h := by
  unfold wk_stk
  have e : (mi_f h' 14029).toNat = (mi_f h 14029).toNat + 1 := by rw [ht]; omega
  rw [e]
  show (mi_a h' 165 _, mi_a h' 166 _, mi_a h' 167 _) :: wk_st h' _ = _
  rw [a5, a6, a7, if_pos rfl, if_pos rfl, if_pos rfl]
  refine congrArg _ (wk_st_eq _ (fun i hi => ?_))
  have ne : ¬ i = (mi_f h 14029).toNat := by omega
  rw [a5, a6, a7, if_neg ne, if_neg ne, if_neg ne]
  exact ⟨rfl, rfl, rfl⟩
theorem wk_push2 (t0 : 0 ≤ mi_f h 14029) (ht : mi_f h' 14029 = mi_f h 14029 + 1 + 1) (a5 : ∀ i, mi_a h' 165 i = if i = Int.toNat (mi_f h 14029 + 1) then y0 else if i = Int.toNat (mi_f h 14029) then z0 else mi_a h 165 i) (a6 : ∀ i, mi_a h' 166 i = if i = Int.toNat (mi_f h 14029 + 1) then y1 else if i = Int.toNat (mi_f h 14029) then z1 else mi_a h 166 i) (a7 : ∀ i, mi_a h' 167 i = if i = Int.toNat (mi_f h 14029 + 1) then y2 else if i = Int.toNat (mi_f h 14029) then z2 else mi_a h 167 i) : wk_stk h' = (y0, y1, y2) :: (z0, z1, z2) :: wk_stk h := by
  unfold wk_stk
  have e : (mi_f h' 14029).toNat = (mi_f h 14029).toNat + 1 + 1 := by rw [ht]; omega
  have e1 : (mi_f h 14029 + 1).toNat = (mi_f h 14029).toNat + 1 := by omega
  rw [e]
  show (mi_a h' 165 _, mi_a h' 166 _, mi_a h' 167 _) :: (mi_a h' 165 _, mi_a h' 166 _, mi_a h' 167 _) :: wk_st h' _ = _
  have n1 : ¬ (mi_f h 14029).toNat = (mi_f h 14029).toNat + 1 := by omega
  rw [a5 ((mi_f h 14029).toNat + 1), a6 ((mi_f h 14029).toNat + 1), a7 ((mi_f h 14029).toNat + 1), a5 (mi_f h 14029).toNat, a6 (mi_f h 14029).toNat, a7 (mi_f h 14029).toNat, e1, if_pos rfl, if_pos rfl, if_pos rfl, if_neg n1, if_neg n1, if_neg n1, if_pos rfl, if_pos rfl, if_pos rfl]
  refine congrArg _ (congrArg _ (wk_st_eq _ (fun i hi => ?_)))
  have ne : ¬ i = (mi_f h 14029).toNat := by omega
  have ne1 : ¬ i = (mi_f h 14029 + 1).toNat := by omega
  rw [a5, a6, a7, if_neg ne, if_neg ne, if_neg ne, if_neg ne1, if_neg ne1, if_neg ne1]
  exact ⟨rfl, rfl, rfl⟩
/-- the same stack -/
theorem wk_stk_fr {wr : List (Nat × Nat)} (hF : ab_Fr wr h h') (hS : ab_Sh sx_sk h) (hw : (ab_in wr 14029 || ab_in wr 21120 || ab_in wr 21248 || ab_in wr 21376) = false) : wk_stk h' = wk_stk h := by
  simp only [Bool.or_eq_false_iff] at hw
  unfold wk_stk
  rw [me_f (c := 14029) hF hS rfl hw.1.1.1]
  exact wk_st_eq _ (fun i _ => ⟨me_a (k := 165) hF hS rfl hw.1.1.2, me_a (k := 166) hF hS rfl hw.1.2, me_a (k := 167) hF hS rfl hw.2⟩)
end WKP
/-- how many nodes there are, their kinds and values, by the mode -/
def wk_n (μ : Int) (h : sm_H) : Int := if μ = 2 then mi_f h 14033 else mi_f h 14016
def wk_K (μ : Int) (h : sm_H) (k : Nat) : Int := if μ = 2 then mi_a h 155 k else mi_a h 158 k
def wk_V (μ : Int) (h : sm_H) (k : Nat) : Int := if μ = 2 then (mx_b h 162 k).toInt else (mx_b h 163 k).toInt
/-- nodes below n stay -/
def wk_ag (μ : Int) (n : Int) (h h' : sm_H) : Prop := ∀ i : Nat, (i : Int) < n → wk_K μ h' i = wk_K μ h i ∧ wk_V μ h' i = wk_V μ h i
/-- a node comes -/
def wk_ev (μ k v : Int) (h h' : sm_H) : Prop := wk_n μ h' = wk_n μ h + 1 ∧ wk_ag μ (wk_n μ h) h h' ∧ (μ ≠ 2 → wk_K μ h' (wk_n μ h).toNat = k ∧ wk_V μ h' (wk_n μ h).toNat = v ∧ mi_f h' 14033 = mi_f h 14033) ∧ (μ = 2 → mi_f h' 14016 = mi_f h 14016)
/-- no node comes -/
def wk_ne (μ : Int) (h h' : sm_H) : Prop := mi_f h' 14033 = mi_f h 14033 ∧ mi_f h' 14016 = mi_f h 14016 ∧ wk_ag μ (wk_n μ h) h h'
def wr_W1 : List (Nat × Nat) := [(14016, 14017), (14029, 14030), (14031, 14038), (14044, 14048), (18560, 18561), (20224, 20481), (20864, 20865), (21120, 21377), (21760, 21761)]
theorem wk_ne_n {μ : Int} {h h' : sm_H} (hn : wk_ne μ h h') : wk_n μ h' = wk_n μ h := by
  unfold wk_n
  rw [hn.1, hn.2.1]
theorem wk_ag_fr {μ n : Int} {h h' : sm_H} {wr : List (Nat × Nat)} (hF : ab_Fr wr h h') (hS : ab_Sh sx_sk h) (hw : (ab_in wr 19840 || ab_in wr 20224 || ab_in wr 20736 || ab_in wr 20864) = false) : wk_ag μ n h h' := by
  simp only [Bool.or_eq_false_iff] at hw
  intro i _
  unfold wk_K wk_V
  rw [me_a (k := 155) hF hS rfl hw.1.1.1, me_a (k := 158) hF hS rfl hw.1.1.2, me_b (k := 162) hF hS rfl hw.1.2, me_b (k := 163) hF hS rfl hw.2]
  exact ⟨rfl, rfl⟩
theorem wk_ne_fr {μ : Int} {h h' : sm_H} {wr : List (Nat × Nat)} (hF : ab_Fr wr h h') (hS : ab_Sh sx_sk h) (hw : (ab_in wr 14033 || ab_in wr 14016 || ab_in wr 19840 || ab_in wr 20224 || ab_in wr 20736 || ab_in wr 20864) = false) : wk_ne μ h h' := by
  have hw2 := hw
  simp only [Bool.or_eq_false_iff] at hw2
  refine ⟨me_f (c := 14033) hF hS rfl hw2.1.1.1.1.1, me_f (c := 14016) hF hS rfl hw2.1.1.1.1.2, wk_ag_fr hF hS ?_⟩
  simp only [Bool.or_eq_false_iff]
  exact ⟨⟨⟨hw2.1.1.1.2, hw2.1.1.2⟩, hw2.1.2⟩, hw2.2⟩
theorem wk_ag.trans {μ n n' : Int} {h h' h2 : sm_H} (a : wk_ag μ n h h') (b : wk_ag μ n' h' h2) (hn : n ≤ n') : wk_ag μ n h h2 := fun i hi => by
  obtain ⟨a1, a2⟩ := a i hi
  obtain ⟨b1, b2⟩ := b i (by omega)
  exact ⟨b1.trans a1, b2.trans a2⟩
/-- comes -/
theorem me_comes {h : sm_H} {d : Nat} {zk : Int} {zv : Int64} (μ : Int) (hS : ab_Sh sx_sk h) (ok_zk : mi_in zk) (hm : mi_f h 14028 = μ) (hn : μ = 2 → mi_f h 14033 ≤ 1000) : me_E d 208 0 [some (.inr (.inr 109)), some (.inl zk), some (.inr (.inl zv)), none] [] h (fun w h' => ab_Sh sx_sk h' ∧ ab_Fr [(14016, 14017), (14033, 14034), (14044, 14045), (20224, 20225), (20352, 20353), (20480, 20481), (20864, 20865)] h h' ∧ ((μ ≠ 2 ∧ mi_f h' 14044 = 1 ∧ w = some (.inl 0) ∧ mi_f h' 14033 = mi_f h 14033 ∧ mi_f h' 14016 = mi_f h 14016) ∨ ((μ = 2 → mi_f h' 14044 = mi_f h 14044) ∧ (μ ≠ 2 → mi_f h' 14044 = 0) ∧ wk_ev μ zk zv.toInt h h' ∧ w = some (.inl (wk_n μ h))))) := by
  refine mt_comes hS ok_zk ?_ ?_ ?_
  · intro b1 b2 c1 c2
    refine ⟨by omega, fun h1 g1 g2 g3 g4 g5 g6 g7 g8 => ?_⟩
    have hμ : μ ≠ 2 := by omega
    refine ⟨g1, g8.wide (fun c hc => ab_swr_ok (by decide) hc), Or.inr ⟨fun e => absurd e hμ, fun _ => g3, ⟨?_, ?_, fun _ => ⟨?_, ?_, ?_⟩, fun e => absurd e hμ⟩, ?_⟩⟩
    · unfold wk_n; rw [if_neg hμ, if_neg hμ]; exact g2
    · intro i hi
      unfold wk_n at hi
      rw [if_neg hμ] at hi
      have ne : ¬ i = Int.toNat (mi_f h 14016) := by omega
      unfold wk_K wk_V
      rw [if_neg hμ, if_neg hμ, if_neg hμ, if_neg hμ, g4, g7, if_neg ne, if_neg ne]
      exact ⟨rfl, rfl⟩
    · unfold wk_K wk_n; rw [if_neg hμ, if_neg hμ, g4, if_pos rfl]
    · unfold wk_V wk_n; rw [if_neg hμ, if_neg hμ, g7, if_pos rfl]
    · exact me_f (c := 14033) g8 hS rfl rfl
    · unfold wk_n; rw [if_neg hμ]
  · intro b1 b2 c1 c2 h1 g1 g2 g3
    have hμ : μ ≠ 2 := by omega
    exact ⟨g1, g3.wide (fun c hc => ab_swr_ok (by decide) hc), Or.inl ⟨hμ, g2, rfl, me_f (c := 14033) g3 hS rfl rfl, me_f (c := 14016) g3 hS rfl rfl⟩⟩
  · intro b1 b2 c1
    have hμ : μ = 2 := by omega
    have hn := hn hμ
    refine ⟨by omega, fun h1 g1 g2 g3 => ?_⟩
    refine ⟨g1, g3.wide (fun c hc => ab_swr_ok (by decide) hc), Or.inr ⟨fun _ => me_f (c := 14044) g3 hS rfl rfl, fun e => absurd hμ e, ⟨?_, wk_ag_fr g3 hS rfl, fun e => absurd hμ e, fun _ => me_f (c := 14016) g3 hS rfl rfl⟩, ?_⟩⟩
    · unfold wk_n; rw [if_pos hμ, if_pos hμ]; exact g2
    · unfold wk_n; rw [if_pos hμ]
/-- enter -/
theorem me_enter {h : sm_H} {d : Nat} {zr : Int} (μ : Int) (hS : ab_Sh sx_sk h) (hm : mi_f h 14028 = μ) (hr0 : 0 ≤ zr) (hr1 : zr < 10) (ht0 : 0 ≤ mi_f h 14029) (ht1 : mi_f h 14029 ≤ 2990) (hu0 : 0 ≤ mi_f h 14032) (hu1 : mi_f h 14032 ≤ 12) (hu2 : μ = 2 → mi_f h 14032 < 12 ∧ mi_f h 14033 ≤ 1000) : me_E (d + 2) 207 0 [some (.inr (.inr 109)), some (.inl zr)] [] h (fun w h' => w = none ∧ ab_Sh sx_sk h' ∧ ab_Fr wr_W1 h h' ∧ mi_f h' 14034 = mi_f h 14034 ∧ (mi_f h' 14044 = 1 ∨ (mi_f h' 14044 = 0 ∧ mi_f h 14032 < 12 ∧ mi_f h' 14032 = mi_f h 14032 + 1 ∧ mi_f h' 14029 = mi_f h 14029 + 2 ∧ wk_stk h' = (1, mi_a h 114 zr.toNat, 0) :: (2, 1, 0) :: wk_stk h ∧ wk_ev μ 1 zr h h'))) := by
  have ok : mi_in zr := ⟨by omega, by omega⟩
  have ez : ((Int32.ofInt zr).toInt64).toInt = zr := by rw [Int32.toInt_toInt64, mi_ti ok]
  have main : ∀ h1, mi_f h 14032 < 12 → ab_Sh sx_sk h1 → mi_f h1 14044 = 0 → ab_Fr [(14035, 14036), (14044, 14045)] h h1 → ∃ Q1, me_E (d + 1) 208 0 (mi_entry 4 [.inr (.inr 109), .inl (1 : Int), .inr (.inl (Int32.ofInt zr).toInt64)]) [] h1 Q1 ∧ ∀ w h2, (∀ x, w = some x → mi_ok x) → Q1 w h2 → me_E (d + 2) 207 51 [some (.inr (.inr 109)), some (.inl zr)] (mi_back w []) h2 (fun w h' => w = none ∧ ab_Sh sx_sk h' ∧ ab_Fr wr_W1 h h' ∧ mi_f h' 14034 = mi_f h 14034 ∧ (mi_f h' 14044 = 1 ∨ (mi_f h' 14044 = 0 ∧ mi_f h 14032 < 12 ∧ mi_f h' 14032 = mi_f h 14032 + 1 ∧ mi_f h' 14029 = mi_f h 14029 + 2 ∧ wk_stk h' = (1, mi_a h 114 zr.toNat, 0) :: (2, 1, 0) :: wk_stk h ∧ wk_ev μ 1 zr h h'))) := by
    intro h1 hlt g1 g2 g3
    have f28 : mi_f h1 14028 = mi_f h 14028 := me_f (c := 14028) g3 hS rfl rfl
    have f33 : mi_f h1 14033 = mi_f h 14033 := me_f (c := 14033) g3 hS rfl rfl
    have f29 : mi_f h1 14029 = mi_f h 14029 := me_f (c := 14029) g3 hS rfl rfl
    have f32 : mi_f h1 14032 = mi_f h 14032 := me_f (c := 14032) g3 hS rfl rfl
    have f34 : mi_f h1 14034 = mi_f h 14034 := me_f (c := 14034) g3 hS rfl rfl
    have f16 : mi_f h1 14016 = mi_f h 14016 := me_f (c := 14016) g3 hS rfl rfl
    have fst : wk_stk h1 = wk_stk h := wk_stk_fr g3 hS rfl
    refine ⟨_, me_comes μ g1 ⟨by decide, by decide⟩ (f28.trans hm) (fun e => by have := hu2 e; omega), ?_⟩
    intro w h2 hw hq
    obtain ⟨q1, q2, q3⟩ := hq
    have k29 : mi_f h2 14029 = mi_f h1 14029 := me_f (c := 14029) q2 g1 rfl rfl
    have k32 : mi_f h2 14032 = mi_f h1 14032 := me_f (c := 14032) q2 g1 rfl rfl
    have k34 : mi_f h2 14034 = mi_f h1 14034 := me_f (c := 14034) q2 g1 rfl rfl
    have kst : wk_stk h2 = wk_stk h1 := wk_stk_fr q2 g1 rfl
    have k114 : mi_a h2 114 zr.toNat = mi_a h 114 zr.toNat := (me_a (k := 114) q2 g1 rfl rfl).trans (me_a (k := 114) g3 hS rfl rfl)
    have hz : ∃ z, w = some (.inl z) := by
      rcases q3 with q3 | q3
      · exact ⟨_, q3.2.2.1⟩
      · exact ⟨_, q3.2.2.2⟩
    obtain ⟨z, rfl⟩ := hz
    refine mt_enB q1 ok (hw _ rfl) ?_
    intro b1 b2
    refine ⟨by omega, ?_⟩
    intro h3 r1 r29 r31 r32 a5 a6 a7 r4
    have l34 : mi_f h3 14034 = mi_f h2 14034 := me_f (c := 14034) r4 q1 rfl rfl
    have l44 : mi_f h3 14044 = mi_f h2 14044 := me_f (c := 14044) r4 q1 rfl rfl
    have l33 : mi_f h3 14033 = mi_f h2 14033 := me_f (c := 14033) r4 q1 rfl rfl
    have l16 : mi_f h3 14016 = mi_f h2 14016 := me_f (c := 14016) r4 q1 rfl rfl
    have hFr : ab_Fr wr_W1 h h3 := ((g3.wide (fun c hc => ab_swr_ok (by decide) hc)).trans (q2.wide (fun c hc => ab_swr_ok (by decide) hc))).trans (r4.wide (fun c hc => ab_swr_ok (by decide) hc))
    refine ⟨rfl, r1, hFr, by rw [l34, k34, f34], ?_⟩
    rcases q3 with q3 | q3
    · exact Or.inl (by rw [l44]; exact q3.2.1)
    · obtain ⟨p1, p2, p3, -⟩ := q3
      refine Or.inr ⟨?_, hlt, by omega, by omega, ?_, ?_⟩
      · rw [l44]
        by_cases hμ : μ = 2
        · rw [p1 hμ]; exact g2
        · exact p2 hμ
      · have := wk_push2 (by omega) r29 a5 a6 a7
        rw [k114, kst, fst] at this
        exact this
      · rw [ez] at p3
        have agA : wk_ag μ (wk_n μ h) h h1 := wk_ag_fr g3 hS rfl
        have agC : wk_ag μ (wk_n μ h2) h2 h3 := wk_ag_fr r4 q1 rfl
        have nA : wk_n μ h1 = wk_n μ h := by unfold wk_n; rw [f33, f16]
        have nC : wk_n μ h3 = wk_n μ h2 := by unfold wk_n; rw [l33, l16]
        obtain ⟨e1, e2, e3, e4⟩ := p3
        rw [nA] at e1 e2 e3
        have h16 := me_fb (c := 14016) hS rfl
        have hn0 : μ ≠ 2 → 0 ≤ wk_n μ h := fun e => by unfold wk_n; rw [if_neg e]; exact h16.1
        refine ⟨by rw [nC]; exact e1, (agA.trans e2 (Int.le_refl _)).trans agC (by omega), fun e => ?_, fun e => by rw [l16, e4 e, f16]⟩
        obtain ⟨x1, x2, x3⟩ := e3 e
        have hlt2 : ((wk_n μ h).toNat : Int) < wk_n μ h2 := by have := hn0 e; omega
        obtain ⟨y1, y2⟩ := agC _ hlt2
        exact ⟨y1.trans x1, y2.trans x2, by rw [l33, x3, f33]⟩
  refine mt_enA hS ok ?_ ?_ ?_
  · intro b1 c1 h1 g1 g2 g3 g4
    exact main h1 (by omega) g1 g3 g4
  · intro b1 b2 c1 c2
    exfalso
    have := hu2 (by omega)
    omega
  · intro b1 b2 c1 c2 h1 g1 g2 g3
    exact ⟨rfl, g1, g3.wide (fun c hc => ab_swr_ok (by decide) hc), me_f (c := 14034) g3 hS rfl rfl, Or.inl g2⟩
/-- draw -/
theorem dr_x (C : Int64) : 0 ≤ ((C.toUInt64 >>> ((Int32.ofInt ((33 : Int))).toInt64.toUInt64 &&& Int64.toUInt64 63)).toInt64).toInt ∧ ((C.toUInt64 >>> ((Int32.ofInt ((33 : Int))).toInt64.toUInt64 &&& Int64.toUInt64 63)).toInt64).toInt < 2147483648 := by
  have e : ((Int32.ofInt ((33 : Int))).toInt64.toUInt64 &&& Int64.toUInt64 63) = 33 := by decide
  rw [e]
  have hn : (C.toUInt64 >>> 33).toNat < 2147483648 := by
    rw [UInt64.toNat_shiftRight]
    have h1 : C.toUInt64.toNat < 2 ^ 64 := C.toUInt64.toNat_lt
    have h2 : (33 : UInt64).toNat % 64 = 33 := by decide
    rw [h2, Nat.shiftRight_eq_div_pow]
    omega
  have h2 : ((C.toUInt64 >>> 33).toInt64).toInt = ((C.toUInt64 >>> 33).toNat : Int) := by
    show (C.toUInt64 >>> 33).toBitVec.toInt = _
    exact BitVec.toInt_eq_toNat_of_lt (by show 2 * (C.toUInt64 >>> 33).toNat < 2 ^ 64; omega)
  omega
theorem dr_mod {X Y : Int64} (x0 : 0 ≤ X.toInt) (x1 : X.toInt < 2147483648) (y0 : 0 < Y.toInt) : (X - X / Y * Y).toInt32.toInt = X.toInt % Y.toInt := by
  have q0 : 0 ≤ X.toInt / Y.toInt := Int.ediv_nonneg x0 (by omega)
  have q1 : X.toInt / Y.toInt ≤ X.toInt := Int.ediv_le_self _ x0
  have p0 : 0 ≤ X.toInt / Y.toInt * Y.toInt := Int.mul_nonneg q0 (by omega)
  have p1 : X.toInt / Y.toInt * Y.toInt ≤ X.toInt := Int.ediv_mul_le _ (by omega)
  have e1 : (X / Y).toInt = X.toInt / Y.toInt := by
    rw [Int64.toInt_div, Int.tdiv_eq_ediv_of_nonneg x0]
    exact Int.bmod_eq_of_le (by omega) (by omega)
  have e2 : (X / Y * Y).toInt = X.toInt / Y.toInt * Y.toInt := by
    rw [Int64.toInt_mul, e1]
    exact Int.bmod_eq_of_le (by omega) (by omega)
  have e3 : (X - X / Y * Y).toInt = X.toInt - X.toInt / Y.toInt * Y.toInt := by
    rw [Int64.toInt_sub, e2]
    exact Int.bmod_eq_of_le (by omega) (by omega)
  rw [Int64.toInt_toInt32, e3, Int.bmod_eq_of_le (by omega) (by omega), Int.emod_def, Int.mul_comm]
theorem me_draw {h : sm_H} {d : Nat} {zn : Int} (hS : ab_Sh sx_sk h) (h0 : 0 < zn) (h1 : zn ≤ 2147483647) : me_E d 211 0 [some (.inr (.inr 109)), some (.inl zn)] [] h (fun w h' => ab_Sh sx_sk h' ∧ ab_Fr [(14047, 14048)] h h' ∧ ∃ z, w = some (.inl z) ∧ 0 ≤ z ∧ z < zn) := by
  have ok : mi_in zn := ⟨by omega, by omega⟩
  have ey : ((Int32.ofInt zn).toInt64).toInt = zn := by rw [Int32.toInt_toInt64, mi_ti ok]
  refine mt_draw hS ok ⟨fun e => ?_, fun h1 g1 g2 g3 => ⟨g1, g3, _, rfl, ?_⟩⟩
  · rw [e] at ey
    have : (0 : Int64).toInt = 0 := rfl
    omega
  · obtain ⟨x0, x1⟩ := dr_x (((mx_l h 14047) * (Int64.ofNat 6364136223846793005)) + (Int64.ofNat 1442695040888963407))
    rw [dr_mod x0 x1 (by rw [ey]; exact h0), ey]
    exact ⟨Int.emod_nonneg _ (by omega), Int.emod_lt_of_pos _ h0⟩
