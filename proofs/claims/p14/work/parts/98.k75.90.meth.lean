set_option maxRecDepth 20000 in
theorem sk_241 {K : sm_H} (hK : sc_KOk K) : sm_okM sc_Ts sc_sx sc_zx sc_oc K sc_cl sc_Y 241 (2, 1, sb_241) :=
  sm_okM_of (pool := sp_27) (⟨"TwoWayGrammarModel", "count", "(I)I"⟩, prog_14_method_73_code, (some (.int))) (by rfl) (sm_memf 2183 rfl rfl) (by decide +kernel) ⟨by decide, by decide⟩ (by decide) (Or.inr (Or.inl ⟨rfl, rfl⟩)) (by decide +kernel) (sp_ok_27 hK _)
/-! ALL METHODS are right -/
set_option maxRecDepth 20000 in
theorem sg_0 {K : sm_H} (hK : sc_KOk K) : ∀ i M, sb_all0[i]? = some M → sm_okM sc_Ts sc_sx sc_zx sc_oc K sc_cl sc_Y (0 + i) M :=
  sm_lst (sk_0 hK) (sm_lst (sk_1 hK) (sm_lst (sk_2 hK) (sm_lst (sk_3 hK) (sm_lst (sk_4 hK) (sm_lst (sk_5 hK) (sm_lst (sk_6 hK) (sm_lst (sk_7 hK) (sm_lst (sk_8 hK) (sm_lst (sk_9 hK) (sm_lst (sk_10 hK) (sm_lst (sk_11 hK) (sm_lst (sk_12 hK) (sm_lst (sk_13 hK) (sm_lst (sk_14 hK) (sm_lst (sk_15 hK) (sm_lst (sk_16 hK) (sm_lst (sk_17 hK) (sm_lst (sk_18 hK) (sm_lst (sk_19 hK) (sm_lst (sk_20 hK) (sm_lst (sk_21 hK) (sm_lst (sk_22 hK) (sm_lst (sk_23 hK) (sm_lst (sk_24 hK) (sm_lst (sk_25 hK) (sm_lst (sk_26 hK) (sm_lst (sk_27 hK) (sm_lst (sk_28 hK) (sm_lst (sk_29 hK) (sm_lst (sk_30 hK) (sm_lst (sk_31 hK) (sm_lst (sk_32 hK) (sm_lst (sk_33 hK) (sm_lst (sk_34 hK) (sm_lst (sk_35 hK) (sm_lst (sk_36 hK) (sm_lst (sk_37 hK) (sm_lst (sk_38 hK) (sm_lst (sk_39 hK) (sm_lst0))))))))))))))))))))))))))))))))))))))))
set_option maxRecDepth 20000 in
theorem sg_1 {K : sm_H} (hK : sc_KOk K) : ∀ i M, sb_all1[i]? = some M → sm_okM sc_Ts sc_sx sc_zx sc_oc K sc_cl sc_Y (40 + i) M :=
  sm_lst (sk_40 hK) (sm_lst (sk_41 hK) (sm_lst (sk_42 hK) (sm_lst (sk_43 hK) (sm_lst (sk_44 hK) (sm_lst (sk_45 hK) (sm_lst (sk_46 hK) (sm_lst (sk_47 hK) (sm_lst (sk_48 hK) (sm_lst (sk_49 hK) (sm_lst (sk_50 hK) (sm_lst (sk_51 hK) (sm_lst (sk_52 hK) (sm_lst (sk_53 hK) (sm_lst (sk_54 hK) (sm_lst (sk_55 hK) (sm_lst (sk_56 hK) (sm_lst (sk_57 hK) (sm_lst (sk_58 hK) (sm_lst (sk_59 hK) (sm_lst (sk_60 hK) (sm_lst (sk_61 hK) (sm_lst (sk_62 hK) (sm_lst (sk_63 hK) (sm_lst (sk_64 hK) (sm_lst (sk_65 hK) (sm_lst (sk_66 hK) (sm_lst (sk_67 hK) (sm_lst (sk_68 hK) (sm_lst (sk_69 hK) (sm_lst (sk_70 hK) (sm_lst (sk_71 hK) (sm_lst (sk_72 hK) (sm_lst (sk_73 hK) (sm_lst (sk_74 hK) (sm_lst (sk_75 hK) (sm_lst (sk_76 hK) (sm_lst (sk_77 hK) (sm_lst (sk_78 hK) (sm_lst (sk_79 hK) (sm_lst0))))))))))))))))))))))))))))))))))))))))
set_option maxRecDepth 20000 in
theorem sg_2 {K : sm_H} (hK : sc_KOk K) : ∀ i M, sb_all2[i]? = some M → sm_okM sc_Ts sc_sx sc_zx sc_oc K sc_cl sc_Y (80 + i) M :=
  sm_lst (sk_80 hK) (sm_lst (sk_81 hK) (sm_lst (sk_82 hK) (sm_lst (sk_83 hK) (sm_lst (sk_84 hK) (sm_lst (sk_85 hK) (sm_lst (sk_86 hK) (sm_lst (sk_87 hK) (sm_lst (sk_88 hK) (sm_lst (sk_89 hK) (sm_lst (sk_90 hK) (sm_lst (sk_91 hK) (sm_lst (sk_92 hK) (sm_lst (sk_93 hK) (sm_lst (sk_94 hK) (sm_lst (sk_95 hK) (sm_lst (sk_96 hK) (sm_lst (sk_97 hK) (sm_lst (sk_98 hK) (sm_lst (sk_99 hK) (sm_lst (sk_100 hK) (sm_lst (sk_101 hK) (sm_lst (sk_102 hK) (sm_lst (sk_103 hK) (sm_lst (sk_104 hK) (sm_lst (sk_105 hK) (sm_lst (sk_106 hK) (sm_lst (sk_107 hK) (sm_lst (sk_108 hK) (sm_lst (sk_109 hK) (sm_lst (sk_110 hK) (sm_lst (sk_111 hK) (sm_lst (sk_112 hK) (sm_lst (sk_113 hK) (sm_lst (sk_114 hK) (sm_lst (sk_115 hK) (sm_lst (sk_116 hK) (sm_lst (sk_117 hK) (sm_lst (sk_118 hK) (sm_lst (sk_119 hK) (sm_lst0))))))))))))))))))))))))))))))))))))))))
set_option maxRecDepth 20000 in
theorem sg_3 {K : sm_H} (hK : sc_KOk K) : ∀ i M, sb_all3[i]? = some M → sm_okM sc_Ts sc_sx sc_zx sc_oc K sc_cl sc_Y (120 + i) M :=
  sm_lst (sk_120 hK) (sm_lst (sk_121 hK) (sm_lst (sk_122 hK) (sm_lst (sk_123 hK) (sm_lst (sk_124 hK) (sm_lst (sk_125 hK) (sm_lst (sk_126 hK) (sm_lst (sk_127 hK) (sm_lst (sk_128 hK) (sm_lst (sk_129 hK) (sm_lst (sk_130 hK) (sm_lst (sk_131 hK) (sm_lst (sk_132 hK) (sm_lst (sk_133 hK) (sm_lst (sk_134 hK) (sm_lst (sk_135 hK) (sm_lst (sk_136 hK) (sm_lst (sk_137 hK) (sm_lst (sk_138 hK) (sm_lst (sk_139 hK) (sm_lst (sk_140 hK) (sm_lst (sk_141 hK) (sm_lst (sk_142 hK) (sm_lst (sk_143 hK) (sm_lst (sk_144 hK) (sm_lst (sk_145 hK) (sm_lst (sk_146 hK) (sm_lst (sk_147 hK) (sm_lst (sk_148 hK) (sm_lst (sk_149 hK) (sm_lst (sk_150 hK) (sm_lst (sk_151 hK) (sm_lst (sk_152 hK) (sm_lst (sk_153 hK) (sm_lst (sk_154 hK) (sm_lst (sk_155 hK) (sm_lst (sk_156 hK) (sm_lst (sk_157 hK) (sm_lst (sk_158 hK) (sm_lst (sk_159 hK) (sm_lst0))))))))))))))))))))))))))))))))))))))))
set_option maxRecDepth 20000 in
theorem sg_4 {K : sm_H} (hK : sc_KOk K) : ∀ i M, sb_all4[i]? = some M → sm_okM sc_Ts sc_sx sc_zx sc_oc K sc_cl sc_Y (160 + i) M :=
  sm_lst (sk_160 hK) (sm_lst (sk_161 hK) (sm_lst (sk_162 hK) (sm_lst (sk_163 hK) (sm_lst (sk_164 hK) (sm_lst (sk_165 hK) (sm_lst (sk_166 hK) (sm_lst (sk_167 hK) (sm_lst (sk_168 hK) (sm_lst (sk_169 hK) (sm_lst (sk_170 hK) (sm_lst (sk_171 hK) (sm_lst (sk_172 hK) (sm_lst (sk_173 hK) (sm_lst (sk_174 hK) (sm_lst (sk_175 hK) (sm_lst (sk_176 hK) (sm_lst (sk_177 hK) (sm_lst (sk_178 hK) (sm_lst (sk_179 hK) (sm_lst (sk_180 hK) (sm_lst (sk_181 hK) (sm_lst (sk_182 hK) (sm_lst (sk_183 hK) (sm_lst (sk_184 hK) (sm_lst (sk_185 hK) (sm_lst (sk_186 hK) (sm_lst (sk_187 hK) (sm_lst (sk_188 hK) (sm_lst (sk_189 hK) (sm_lst (sk_190 hK) (sm_lst (sk_191 hK) (sm_lst (sk_192 hK) (sm_lst (sk_193 hK) (sm_lst (sk_194 hK) (sm_lst (sk_195 hK) (sm_lst (sk_196 hK) (sm_lst (sk_197 hK) (sm_lst (sk_198 hK) (sm_lst (sk_199 hK) (sm_lst0))))))))))))))))))))))))))))))))))))))))
set_option maxRecDepth 20000 in
theorem sg_5 {K : sm_H} (hK : sc_KOk K) : ∀ i M, sb_all5[i]? = some M → sm_okM sc_Ts sc_sx sc_zx sc_oc K sc_cl sc_Y (200 + i) M :=
  sm_lst (sk_200 hK) (sm_lst (sk_201 hK) (sm_lst (sk_202 hK) (sm_lst (sk_203 hK) (sm_lst (sk_204 hK) (sm_lst (sk_205 hK) (sm_lst (sk_206 hK) (sm_lst (sk_207 hK) (sm_lst (sk_208 hK) (sm_lst (sk_209 hK) (sm_lst (sk_210 hK) (sm_lst (sk_211 hK) (sm_lst (sk_212 hK) (sm_lst (sk_213 hK) (sm_lst (sk_214 hK) (sm_lst (sk_215 hK) (sm_lst (sk_216 hK) (sm_lst (sk_217 hK) (sm_lst (sk_218 hK) (sm_lst (sk_219 hK) (sm_lst (sk_220 hK) (sm_lst (sk_221 hK) (sm_lst (sk_222 hK) (sm_lst (sk_223 hK) (sm_lst (sk_224 hK) (sm_lst (sk_225 hK) (sm_lst (sk_226 hK) (sm_lst (sk_227 hK) (sm_lst (sk_228 hK) (sm_lst (sk_229 hK) (sm_lst (sk_230 hK) (sm_lst (sk_231 hK) (sm_lst (sk_232 hK) (sm_lst (sk_233 hK) (sm_lst (sk_234 hK) (sm_lst (sk_235 hK) (sm_lst (sk_236 hK) (sm_lst (sk_237 hK) (sm_lst (sk_238 hK) (sm_lst (sk_239 hK) (sm_lst0))))))))))))))))))))))))))))))))))))))))
set_option maxRecDepth 20000 in
theorem sg_6 {K : sm_H} (hK : sc_KOk K) : ∀ i M, sb_all6[i]? = some M → sm_okM sc_Ts sc_sx sc_zx sc_oc K sc_cl sc_Y (240 + i) M :=
  sm_lst (sk_240 hK) (sm_lst (sk_241 hK) (sm_lst0))
theorem sc_good {K : sm_H} (hK : sc_KOk K) : sm_Good sc_Ts sc_sx sc_zx sc_oc K sc_cl sc_Y sc_P := by
  intro mi M h
  obtain ⟨l, hl, hm⟩ := sc_Pinv h
  have hj : mi / 40 < 7 := (List.getElem?_eq_some_iff.mp hl).1
  rcases (show mi / 40 = 0 ∨ mi / 40 = 1 ∨ mi / 40 = 2 ∨ mi / 40 = 3 ∨ mi / 40 = 4 ∨ mi / 40 = 5 ∨ mi / 40 = 6 by omega) with e | e | e | e | e | e | e
  · rw [e] at hl
    cases hl
    have := sg_0 hK _ M hm
    rwa [show 0 + mi % 40 = mi by omega] at this
  · rw [e] at hl
    cases hl
    have := sg_1 hK _ M hm
    rwa [show 40 + mi % 40 = mi by omega] at this
  · rw [e] at hl
    cases hl
    have := sg_2 hK _ M hm
    rwa [show 80 + mi % 40 = mi by omega] at this
  · rw [e] at hl
    cases hl
    have := sg_3 hK _ M hm
    rwa [show 120 + mi % 40 = mi by omega] at this
  · rw [e] at hl
    cases hl
    have := sg_4 hK _ M hm
    rwa [show 160 + mi % 40 = mi by omega] at this
  · rw [e] at hl
    cases hl
    have := sg_5 hK _ M hm
    rwa [show 200 + mi % 40 = mi by omega] at this
  · rw [e] at hl
    cases hl
    have := sg_6 hK _ M hm
    rwa [show 240 + mi % 40 = mi by omega] at this
/-! THE START: the constructors, by computation; a stand-in lies where the script lies -/
def s4_run : Nat → Nat → sm_L → List Value → sa_H → Option (sm_L × sa_H)
  | 0, _, _, _, _ => none
  | n + 1, pc, ls, st, h => if pc = 23 then (if st = [] then some (ls, h) else none) else match sl_tab[pc]? with
    | some (some q) => match sa_step [] q pc ls st h with
      | some (.inl (pc', ls', st', h')) => s4_run n pc' ls' st' h'
      | some (.inr (.inr (m', as, r))) => match sc_PW m' with
        | some _ => none
        | none => match sc_P m' with
          | some M => if (sm_slots as).length ≤ M.1 ∧ (r.map fun v => v.category).sum ≤ 8 then (match sa_run [] sc_P 20000 299 m' 0 (sm_entry M.1 as) [] h with
            | some (v, h') => s4_run n (pc + 3) ls (sm_back v r) h'
            | none => none) else none
          | none => none
      | _ => none
    | _ => none
theorem s4_run_ok {ρ : Nat → Int32} {μ : UInt64 → Int64} {e : sm_E} {QL : sm_H → Prop} : ∀ (n pc : Nat) (ls : sm_L) (st : List Value) (h : sa_H) (ls' : sm_L) (h' : sa_H), s4_run n pc ls st h = some (ls', h') → (sa_gh ρ μ h)[0]? = some st_d → lb_Ends sc_P sc_PW sl_tab 300 23 (sa_gl ρ μ ls') [] ((sa_gh ρ μ h').set 0 e) QL → lb_Ends sc_P sc_PW sl_tab 300 pc (sa_gl ρ μ ls) (sa_gs ρ μ st) ((sa_gh ρ μ h).set 0 e) QL := by
  intro n
  induction n with
  | zero => intro pc ls st h ls' h' hr; simp [s4_run] at hr
  | succ n ih =>
    intro pc ls st h ls' h' hr h0 k
    have hF : ∀ f ∈ ([] : sa_F), sa_true ρ μ f := fun f hf => absurd hf List.not_mem_nil
    unfold s4_run at hr
    split at hr
    · next c =>
      subst c
      split at hr
      · next c2 =>
        subst c2
        cases hr
        exact k
      · cases hr
    · split at hr
      · next q hq =>
        split at hr
        · next pc1 ls1 st1 h1 hs =>
          have hs2 := sa_step_ok (ρ := ρ) (μ := μ) hF hs
          rcases st_step (e := e) h0 hs2 with ⟨a, b, c, g, e1, e2, e3⟩ | ⟨x, e1, e2⟩
          · have e1 : (Sum.inl (pc1, sa_gl ρ μ ls1, sa_gs ρ μ st1, sa_gh ρ μ h1) : sm_R) = .inl (a, b, c, g) := e1
            cases e1
            exact lb_Ends.step hq e3 (ih _ _ _ _ _ _ hr e2 k)
          · have e1 : (Sum.inl (pc1, sa_gl ρ μ ls1, sa_gs ρ μ st1, sa_gh ρ μ h1) : sm_R) = .inr x := e1
            cases e1
        · next m' as r hs =>
          have hs2 := sa_step_ok (ρ := ρ) (μ := μ) hF hs
          rcases st_step (e := e) h0 hs2 with ⟨a, b, c, g, e1, e2, e3⟩ | ⟨x, e1, e2⟩
          · have e1 : (Sum.inr (Sum.inr (m', sa_gs ρ μ as, sa_gs ρ μ r)) : sm_R) = .inl (a, b, c, g) := e1
            cases e1
          · have e1 : (Sum.inr (Sum.inr (m', sa_gs ρ μ as, sa_gs ρ μ r)) : sm_R) = .inr x := e1
            cases e1
            split at hr
            · cases hr
            · next hW =>
              split at hr
              · next M hM =>
                split at hr
                · next hc =>
                  split at hr
                  · next v h1 hrun =>
                    have hr2 := sa_run_ok (ρ := ρ) (μ := μ) hF _ _ _ _ _ _ _ _ _ hrun
                    rw [← sa_entry] at hr2
                    obtain ⟨r1, r2⟩ := st_run (e := e) _ _ _ _ _ _ _ _ _ h0 hr2
                    have hcc := sa_callc (ρ := ρ) (μ := μ) hc
                    refine lb_Ends.callP (d := 299) (Q' := fun v' h2 => v' = v.map (sa_g ρ μ) ∧ h2 = (sa_gh ρ μ h1).set 0 e) hq e2 hW hM hcc.1 hcc.2 ⟨20000, _, _, r2, rfl, rfl⟩ (fun v' h2 hQ => ?_)
                    obtain ⟨rfl, rfl⟩ := hQ
                    rw [sa_back]
                    exact ih _ _ _ _ _ _ hr r1 k
                  · cases hr
                · cases hr
              · cases hr
        · cases hr
      · cases hr
/-! the shape, checked -/
def s4_iv (lo hi : Int) (v : Value) : Bool := match v with
  | .int x => decide (lo ≤ x.toInt ∧ x.toInt ≤ hi)
  | _ => false
def s4_lv (lo hi : Int) (v : Value) : Bool := match v with
  | .long x => decide (lo ≤ x.toInt ∧ x.toInt ≤ hi)
  | _ => false
def s4_f (l : List (Nat × Value)) (i : Nat) : Int32 := match sa_look l i with
  | some v => sa_i v
  | none => 0
def s4_fv (x : Nat × Int × Int) (v : Value) : Bool := match x.1 with
  | 0 => s4_iv x.2.1 x.2.2 v
  | 1 => s4_lv x.2.1 x.2.2 v
  | _ => decide (v = .ref x.2.1.toNat)
def s4_cell (s : ab_S) (e : Option sa_E) : Bool := match s, e with
  | .inl (t, n, lo, hi, ex), some (.inl (t', n', l)) => decide (t' = t ∧ n' = n ∧ lo ≤ 0 ∧ 0 ≤ hi) && (if t = 1 then l.all (fun p => s4_lv lo hi p.2) else l.all (fun p => s4_iv lo hi p.2) && (ex.isEmpty || (List.range n).all (fun i => match ex[i]? with
      | some z => decide ((s4_f l i).toInt = z)
      | none => true)))
  | .inr (ci, fl), some (.inr (ci', fs)) => decide (ci' = ci ∧ fs.length = fl.length) && (fl.zip fs).all (fun p => s4_fv p.1 p.2)
  | _, _ => false
def s4_chk (sk : ab_K) (H : sa_H) : Bool := (List.range sk.length).all (fun k => match sk[k]? with
  | some (some s) => s4_cell s H[k]?
  | _ => true)
section S4S
variable {ρ : Nat → Int32} {μ : UInt64 → Int64}
theorem s4_lookI {lo hi : Int} : ∀ (l : List (Nat × Value)), l.all (fun p => s4_iv lo hi p.2) = true → ∀ i, (∃ x : Int32, sa_look l i = some (.int x) ∧ lo ≤ x.toInt ∧ x.toInt ≤ hi) ∨ sa_look l i = none := by
  intro l
  induction l with
  | nil => intro _ i; exact Or.inr rfl
  | cons p r ih =>
    intro h i
    rw [List.all_cons, Bool.and_eq_true] at h
    obtain ⟨k, v⟩ := p
    unfold sa_look
    by_cases c : i = k
    · rw [if_pos c]
      have h1 := h.1
      unfold s4_iv at h1
      split at h1
      · next x hx =>
        have hx : v = .int x := hx
        subst hx
        have := of_decide_eq_true h1
        exact Or.inl ⟨x, rfl, this.1, this.2⟩
      · cases h1
    · rw [if_neg c]
      exact ih h.2 i
theorem s4_lookL {lo hi : Int} : ∀ (l : List (Nat × Value)), l.all (fun p => s4_lv lo hi p.2) = true → ∀ i, (∃ x : Int64, sa_look l i = some (.long x) ∧ lo ≤ x.toInt ∧ x.toInt ≤ hi) ∨ sa_look l i = none := by
  intro l
  induction l with
  | nil => intro _ i; exact Or.inr rfl
  | cons p r ih =>
    intro h i
    rw [List.all_cons, Bool.and_eq_true] at h
    obtain ⟨k, v⟩ := p
    unfold sa_look
    by_cases c : i = k
    · rw [if_pos c]
      have h1 := h.1
      unfold s4_lv at h1
      split at h1
      · next x hx =>
        have hx : v = .long x := hx
        subst hx
        have := of_decide_eq_true h1
        exact Or.inl ⟨x, rfl, this.1, this.2⟩
      · cases h1
    · rw [if_neg c]
      exact ih h.2 i
theorem s4_cell_ok {s : ab_S} {e : Option sa_E} (h : s4_cell s e = true) : ab_cell s (e.map (sa_ge ρ μ)) := by
  unfold s4_cell at h
  split at h
  · next t n lo hi ex t' n' l =>
    rw [Bool.and_eq_true] at h
    obtain ⟨h1, h2⟩ := h
    obtain ⟨rfl, rfl, z0, z1⟩ := of_decide_eq_true h1
    by_cases c : t' = 1
    · subst c
      rw [if_pos rfl] at h2
      refine ⟨.inr (.inl (sa_fl ρ μ l)), rfl, rfl, fun i _ => ?_⟩
      rcases s4_lookL l h2 i with ⟨x, e1, x0, x1⟩ | e1
      · have : sa_fl ρ μ l i = x := by
          unfold sa_fl
          rw [e1]
          rfl
        rw [this]
        exact ⟨x0, x1⟩
      · have : sa_fl ρ μ l i = 0 := by
          unfold sa_fl
          rw [e1]
        rw [this]
        exact ⟨z0, z1⟩
    · rw [if_neg c, Bool.and_eq_true] at h2
      refine ⟨.inl (sa_fi ρ μ l), ?_, c, fun i hi' => ?_⟩
      · show some (Sum.inl (t', n', if t' = 1 then _ else _)) = _
        rw [if_neg c]
      have ef : sa_fi ρ μ l i = s4_f l i ∧ lo ≤ (sa_fi ρ μ l i).toInt ∧ (sa_fi ρ μ l i).toInt ≤ hi := by
        rcases s4_lookI l h2.1 i with ⟨x, e1, x0, x1⟩ | e1
        · have : sa_fi ρ μ l i = x := by
            unfold sa_fi
            rw [e1]
            rfl
          have h3 : s4_f l i = x := by
            unfold s4_f
            rw [e1]
            rfl
          rw [this, h3]
          exact ⟨rfl, x0, x1⟩
        · have : sa_fi ρ μ l i = 0 := by
            unfold sa_fi
            rw [e1]
          have h3 : s4_f l i = 0 := by
            unfold s4_f
            rw [e1]
          rw [this, h3]
          exact ⟨rfl, z0, z1⟩
      refine ⟨ef.2.1, ef.2.2, fun z hz => ?_⟩
      rw [ef.1]
      rcases Bool.or_eq_true _ _ ▸ h2.2 with x | x
      · rw [List.isEmpty_iff] at x
        rw [x] at hz
        cases hz
      · have y := List.all_eq_true.mp x i (List.mem_range.mpr hi')
        rw [hz] at y
        exact of_decide_eq_true y
  · next ci fl ci' fs =>
    rw [Bool.and_eq_true] at h
    obtain ⟨h1, h2⟩ := h
    obtain ⟨rfl, hlen⟩ := of_decide_eq_true h1
    refine ⟨fs.map (sa_g ρ μ), rfl, by rw [List.length_map]; exact hlen, fun i x v hx hv => ?_⟩
    rw [List.getElem?_map] at hv
    cases hfi : fs[i]? with
    | none => rw [hfi] at hv; cases hv
    | some w =>
      rw [hfi] at hv
      have hv : sa_g ρ μ w = v := Option.some.inj hv
      have hz : (fl.zip fs)[i]? = some (x, w) := by
        rw [List.getElem?_zip_eq_some]
        exact ⟨hx, hfi⟩
      have y := List.all_eq_true.mp h2 _ (List.mem_of_getElem? hz)
      subst hv
      unfold s4_fv at y
      unfold ab_fv
      split at y
      · next c =>
        unfold s4_iv at y
        split at y
        · next q hq =>
          have hq : w = .int q := hq
          subst hq
          have c : x.1 = 0 := c
          rw [c]
          have := of_decide_eq_true y
          exact ⟨q, rfl, this.1, this.2⟩
        · cases y
      · next c =>
        unfold s4_lv at y
        split at y
        · next q hq =>
          have hq : w = .long q := hq
          subst hq
          have c : x.1 = 1 := c
          rw [c]
          have := of_decide_eq_true y
          exact ⟨q, rfl, this.1, this.2⟩
        · cases y
      · next c0 c1 =>
        have y : w = .ref x.2.1.toNat := of_decide_eq_true y
        subst y
        obtain ⟨x1, x2, x3⟩ := x
        match x1, c0, c1 with
        | 0, c0, _ => exact absurd rfl c0
        | 1, _, c1 => exact absurd rfl c1
        | n + 2, _, _ => rfl
  · cases h
theorem s4_Sh {sk : ab_K} {H : sa_H} {e : sm_E} (h : s4_chk sk H = true) (h0 : ∀ s, sk[0]? ≠ some (some s)) : ab_Sh sk ((sa_gh ρ μ H).set 0 e) := by
  intro k s hk
  have hk0 : k ≠ 0 := fun c => by rw [c] at hk; exact h0 s hk
  have hl : k < sk.length := (List.getElem?_eq_some_iff.mp hk).1
  have y := List.all_eq_true.mp h k (List.mem_range.mpr hl)
  rw [hk] at y
  rw [List.getElem?_set_ne (Ne.symm hk0), List.getElem?_map]
  exact s4_cell_ok y
end S4S
/-! THE START: at the law's loop -/
def s4_H0 : sa_H := .inl (99, 0, []) :: (sq_S ++ sq_B)
def s4_fz (e : Option sa_E) (ks : List Nat) : Bool := match e with
  | some (.inr (_, fs)) => ks.all (fun k => decide (fs[k]? = some (.int 0)))
  | _ => false
def s4_az (e : Option sa_E) : Bool := match e with
  | some (.inl (t, _, l)) => decide (t ≠ 1) && l.isEmpty
  | _ => false
def s4_two (H : sa_H) : Bool := s4_fz H[109]? [1, 2, 3, 7, 9, 10, 63, 65] && (s4_fz H[51]? [14, 15] && (s4_fz H[52]? [1] && (s4_az H[53]? && (s4_az H[110]? && (s4_fz H[54]? [1] && (s4_fz H[56]? [1] && (s4_fz H[94]? [0] && s4_fz H[98]? [0])))))))
def s4_good (r : Option (sm_L × sa_H)) : Bool := match r with
  | some (ls, H) => decide (ls = xl_ls 0 none none none) && (s4_chk sx_sk H && (decide (H.length = 172) && (decide ((H.map sa_sz).sum ≤ 100000) && s4_two H)))
  | none => false
theorem s4_comp : s4_good (s4_run 40 0 (sm_entry 8 [.ref 0]) [] s4_H0) = true := by decide +kernel
theorem s4_szs {ρ : Nat → Int32} {μ : UInt64 → Int64} (H : sa_H) : sm_sl (sa_gh ρ μ H) = (H.map sa_sz).sum := by
  unfold sm_sl
  rw [List.map_map]
  congr 1
  apply List.map_congr_left
  intro e _
  cases e with
  | inl x => rfl
  | inr x => exact List.length_map _
theorem s4_set0 (h : sm_H) (e : sm_E) : sm_sl (h.set 0 e) ≤ sm_sl h + sm_sz e := by
  cases h with
  | nil => exact Nat.zero_le _
  | cons x r =>
    show ((e :: r).map sm_sz).sum ≤ ((x :: r).map sm_sz).sum + sm_sz e
    simp only [List.map_cons, List.sum_cons]
    omega
theorem s4_fld {h : sm_H} {ci c k f : Nat} {fs : List Value} (hk : c / 128 = k) (hf : c % 128 = f) (h1 : h[k]? = some (.inr (ci, fs))) (h2 : fs[f]? = some (.int 0)) : mi_f h c = 0 := by
  unfold mi_f mx_i ab_fld
  rw [hk, hf, h1]
  simp only [h2]
  rfl
section S4Z
variable {ρ : Nat → Int32} {μ : UInt64 → Int64} {H : sa_H} {e : sm_E}
theorem s4_fz_ok {k c j : Nat} {ks : List Nat} (h : s4_fz H[k]? ks = true) (hk : k ≠ 0) (hj : j ∈ ks) (h1 : c / 128 = k) (h2 : c % 128 = j) : mi_f ((sa_gh ρ μ H).set 0 e) c = 0 := by
  unfold s4_fz at h
  split at h
  · next ci fs hh =>
    have f1 := of_decide_eq_true (List.all_eq_true.mp h j hj)
    have g : ((sa_gh ρ μ H).set 0 e)[k]? = some (.inr (ci, fs.map (sa_g ρ μ))) := by
      rw [List.getElem?_set_ne (Ne.symm hk), List.getElem?_map, hh]
      rfl
    exact s4_fld h1 h2 g (by rw [List.getElem?_map, f1]; rfl)
  · cases h
theorem s4_az_ok {k : Nat} (h : s4_az H[k]? = true) (hk : k ≠ 0) : mi_a ((sa_gh ρ μ H).set 0 e) k = fun _ => 0 := by
  unfold s4_az at h
  split at h
  · next t n l hh =>
    rw [Bool.and_eq_true, List.isEmpty_iff] at h
    obtain ⟨h1, rfl⟩ := h
    have h1 : t ≠ 1 := of_decide_eq_true h1
    have g : ((sa_gh ρ μ H).set 0 e)[k]? = some (.inl (t, n, .inl (sa_fi ρ μ []))) := by
      rw [List.getElem?_set_ne (Ne.symm hk), List.getElem?_map, hh]
      show some (Sum.inl (t, n, if t = 1 then _ else _)) = _
      rw [if_neg h1]
    funext i
    unfold mi_a mx_a
    rw [g]
    rfl
  · cases h
end S4Z
theorem s4_end {ρ : Nat → Int32} {μ : UInt64 → Int64} {L : Nat} {l0 : List (Nat × Value)} (hL : L ≤ 2048) {r : Option (sm_L × sa_H)} (hr : s4_good r = true) : ∃ ls H, r = some (ls, H) ∧ lb_Ends sc_P sc_PW sl_tab 300 23 (sa_gl ρ μ ls) [] ((sa_gh ρ μ H).set 0 (sa_ge ρ μ (.inl (0, L, l0)))) (fun h' => h'.length ≤ 1000 ∧ sm_sl h' ≤ 200000) := by
  unfold s4_good at hr
  split at hr
  · next ls H =>
    simp only [Bool.and_eq_true, decide_eq_true_eq] at hr
    obtain ⟨r1, r2, r3, r4, r5⟩ := hr
    refine ⟨ls, H, rfl, ?_⟩
    subst r1
    have hSh : ab_Sh sx_sk ((sa_gh ρ μ H).set 0 (sa_ge ρ μ (.inl (0, L, l0)))) := s4_Sh r2 (fun s c => by
      have : sx_sk[0]? = some none := rfl
      rw [this] at c
      cases c)
    have hlen : ((sa_gh ρ μ H).set 0 (sa_ge ρ μ (.inl (0, L, l0)))).length = 172 := by rw [List.length_set, List.length_map]; exact r3
    have hsl : sm_sl ((sa_gh ρ μ H).set 0 (sa_ge ρ μ (.inl (0, L, l0)))) ≤ 100000 + L := by
      refine Nat.le_trans (s4_set0 _ _) ?_
      rw [s4_szs]
      have : sm_sz (sa_ge ρ μ (.inl (0, L, l0))) = L := rfl
      omega
    have h0 : ((sa_gh ρ μ H).set 0 (sa_ge ρ μ (.inl (0, L, l0))))[0]? = some (.inl (0, L, .inl (sa_fi ρ μ l0))) := by
      rw [List.getElem?_set_self (by rw [List.length_map]; omega)]
      rfl
    unfold s4_two at r5
    simp only [Bool.and_eq_true] at r5
    obtain ⟨u1, u2, u3, u4, u5, u6, u7, u8, u9⟩ := r5
    generalize hg : (sa_gh ρ μ H).set 0 (sa_ge ρ μ (.inl (0, L, l0))) = g at *
    have z1 : mi_f g 13953 = 0 := by rw [← hg]; exact s4_fz_ok (j := 1) u1 (by decide) (by decide) rfl rfl
    have z2 : mi_f g 13959 = 0 := by rw [← hg]; exact s4_fz_ok (j := 7) u1 (by decide) (by decide) rfl rfl
    have z3 : mi_f g 14015 = 0 := by rw [← hg]; exact s4_fz_ok (j := 63) u1 (by decide) (by decide) rfl rfl
    have z4 : mi_f g 6543 = 0 := by rw [← hg]; exact s4_fz_ok (j := 15) u2 (by decide) (by decide) rfl rfl
    have z5 : mi_f g 6657 = 0 := by rw [← hg]; exact s4_fz_ok (j := 1) u3 (by decide) (by decide) rfl rfl
    have z6 : mi_a g 53 = fun _ => 0 := by rw [← hg]; exact s4_az_ok u4 (by decide)
    have z7 : mi_a g 110 = fun _ => 0 := by rw [← hg]; exact s4_az_ok u5 (by decide)
    have ht : rl_t g := by
      refine ⟨z5.trans z1.symm, z6.trans z7.symm, ?_⟩
      unfold cx_ok
      rw [z5]
      intro i hi
      exact absurd hi (by omega)
    have y0 : mi_f g 13954 = 0 := by rw [← hg]; exact s4_fz_ok (j := 2) u1 (by decide) (by decide) rfl rfl
    have y1 : mi_f g 13955 = 0 := by rw [← hg]; exact s4_fz_ok (j := 3) u1 (by decide) (by decide) rfl rfl
    have y2 : mi_f g 13961 = 0 := by rw [← hg]; exact s4_fz_ok (j := 9) u1 (by decide) (by decide) rfl rfl
    have y3 : mi_f g 13962 = 0 := by rw [← hg]; exact s4_fz_ok (j := 10) u1 (by decide) (by decide) rfl rfl
    have y4 : mi_f g 14017 = 0 := by rw [← hg]; exact s4_fz_ok (j := 65) u1 (by decide) (by decide) rfl rfl
    have y5 : mi_f g 6542 = 0 := by rw [← hg]; exact s4_fz_ok (j := 14) u2 (by decide) (by decide) rfl rfl
    have y6 : mi_f g 6913 = 0 := by rw [← hg]; exact s4_fz_ok (j := 1) u6 (by decide) (by decide) rfl rfl
    have y7 : mi_f g 7169 = 0 := by rw [← hg]; exact s4_fz_ok (j := 1) u7 (by decide) (by decide) rfl rfl
    have y8 : mi_f g 12032 = 0 := by rw [← hg]; exact s4_fz_ok (j := 0) u8 (by decide) (by decide) rfl rfl
    have y9 : mi_f g 12544 = 0 := by rw [← hg]; exact s4_fz_ok (j := 0) u9 (by decide) (by decide) rfl rfl
    have hc : r9_c g := ⟨⟨fun c => absurd z4 c, fun c => by omega⟩, fun c => by omega, by omega, ⟨fun c => absurd y5 c, fun c => absurd z2 c⟩, fun c => absurd z2 c⟩
    have hR : R9 g := ⟨ht, ⟨y6.trans y0.symm, fun i hi => by rw [y0] at hi; omega⟩, ⟨y7.trans y1.symm, fun i hi => by rw [y1] at hi; omega⟩, hc, ⟨[], ⟨z3, fun k hk => absurd hk (Nat.not_lt_zero k), fun k j hk => absurd hk (Nat.not_lt_zero k)⟩, ⟨⟨y8, fun k hk => absurd hk (Nat.not_lt_zero k)⟩, fo_nil, fun k hk => absurd hk (Nat.not_lt_zero k)⟩, Nat.zero_le _, fun c => absurd rfl c⟩, ⟨⟨y9.trans y4.symm, fun i hi => by rw [y4] at hi; omega⟩, fun _ => ⟨y2, y3⟩⟩⟩
    have hM : M9 g := ⟨mj_of hSh ⟨fun c => by rw [z2] at c; omega, fun c => absurd z3 c⟩, hSh, hR⟩
    have hJ : lj_J M9 L (sa_fi ρ μ l0) g := ⟨hM, by omega, h0⟩
    have hls : sa_gl ρ μ (xl_ls 0 none none none) = xl_ls 0 none none none := rfl
    rw [hls]
    exact c5_loop (C := 1000) (S := 200000) hL 512 0 none none none _ (by decide) (by decide) (by show (L : Int) < 0 + 4 * ((512 : Nat) : Int) + 4; omega) hSh hJ (by omega) (by omega)
  · cases hr
theorem s4_look {L : Nat} {xs : Nat → Int32} (j : Nat) (hj : j < L) : sa_fi (fun _ => 0) (fun _ => 0) ((((List.range L).map xs).zipIdx 0).map (fun z => (z.2, Value.int z.1))) j = xs j := by
  have h := sq_look ((List.range L).map xs) j 0 (by rw [List.length_map, List.length_range]; exact hj)
  rw [Nat.zero_add] at h
  unfold sa_fi
  rw [h]
  show ((List.range L).map xs).getD j 0 = xs j
  rw [List.getD_eq_getElem?_getD, List.getElem?_map, List.getElem?_range hj]
  rfl
theorem s4_all {L : Nat} (hL : L ≤ 2048) (xs : Nat → Int32) : ∃ (ρ : Nat → Int32) (μ : UInt64 → Int64) (l0 : List (Nat × Value)), (∀ j, j < L → sa_fi ρ μ l0 j = xs j) ∧ lb_Ends sc_P sc_PW sl_tab 300 0 (sm_entry 8 [.ref 0]) [] (sa_gh ρ μ (sq_K L l0)) (fun h' => h'.length ≤ 1000 ∧ sm_sl h' ≤ 200000) := by
  refine ⟨fun _ => 0, fun _ => 0, (((List.range L).map xs).zipIdx 0).map (fun z => (z.2, Value.int z.1)), s4_look, ?_⟩
  obtain ⟨ls, H, hr, hE⟩ := s4_end (ρ := fun _ => 0) (μ := fun _ => 0) (l0 := (((List.range L).map xs).zipIdx 0).map (fun z => (z.2, Value.int z.1))) hL s4_comp
  exact s4_run_ok (e := sa_ge (fun _ => 0) (fun _ => 0) (.inl (0, L, (((List.range L).map xs).zipIdx 0).map (fun z => (z.2, Value.int z.1))))) 40 0 (sm_entry 8 [.ref 0]) [] s4_H0 ls H hr rfl hE
