/-! enter, exactly -/
section GX2
variable {h : sm_H} {s : gm_S} {d : Nat}
theorem gx_wrap {a : Int} (h0 : -1000 ≤ a) (h1 : a ≤ 1000) : (Int32.ofInt a - Int32.ofInt (1 : Int)).toInt = a - 1 ∧ (Int32.ofInt a + Int32.ofInt (1 : Int)).toInt = a + 1 := by
  have e1 : (Int32.ofInt a).toInt = a := mi_ti ⟨by omega, by omega⟩
  have e2 : (Int32.ofInt (1 : Int)).toInt = 1 := mi_ti ⟨by decide, by decide⟩
  constructor
  · rw [Int32.toInt_sub, e1, e2]
    exact Int.bmod_eq_of_le (by omega) (by omega)
  · rw [Int32.toInt_add, e1, e2]
    exact Int.bmod_eq_of_le (by omega) (by omega)
def gx_Q (h : sm_H) (m : Option gm_C) (w : Option mi_V) (h' : sm_H) : Prop := w = none ∧ ab_Sh sx_sk h' ∧ ab_Fr wr_W1 h h' ∧ mi_f h' 14034 = mi_f h 14034 ∧ mi_f h' 14033 = mi_f h 14033 ∧ ((m = none ∧ mi_f h' 14044 = 1) ∨ (mi_f h' 14044 = 0 ∧ ∃ c, m = some c ∧ wk_stk h' = c.1 ∧ gx_R h' c.2 ∧ mi_f h' 14032 = wk_ul c.1))
theorem me_enterx {zr : Int} (hS : ab_Sh sx_sk h) (hm : mi_f h 14028 = 1) (ht0 : 0 ≤ mi_f h 14029) (ht : mi_f h 14029 ≤ 2990) (hu : mi_f h 14032 = wk_ul (wk_stk h)) (hu1 : mi_f h 14032 ≤ 12) (hu0 : 0 ≤ mi_f h 14032) (hz0 : 0 ≤ zr) (hz1 : zr < 10) (hR : gx_R h s) (hF0 : -1000 ≤ gm_F s) (hF1 : gm_F s ≤ 1000) (hD0 : -1000 ≤ gm_D s) (hD1 : gm_D s ≤ 999) : me_E (d + 2) 207 0 [some (.inr (.inr 109)), some (.inl zr)] [] h (gx_Q h (gm_en (mi_a h) zr (wk_stk h) s)) := by
  have ok : mi_in zr := ⟨by omega, by omega⟩
  have ez : ((Int32.ofInt zr).toInt64).toInt = zr := by rw [Int32.toInt_toInt64, mi_ti ok]
  obtain ⟨r1, r2, r3, r4, r5, r6⟩ := hR
  refine mt_enA hS ok ?_ ?_ ?_
  · intro b1 c1 h1 g1 g2 g3 g4
    have hR1 : gx_R h1 (gm_X s, gm_F s - 1, gm_T s, gm_D s, gm_P s) := by
      unfold gx_R
      rw [gm_T_mk, gm_X_mk, gm_F_mk, gm_D_mk, gm_P_mk]
      refine ⟨gx_T_fr r1 g4 hS rfl, (me_l (c := 14047) g4 hS rfl rfl).trans r2, ?_, (me_f (c := 14031) g4 hS rfl rfl).trans r4, (me_f (c := 14030) g4 hS rfl rfl).trans r5, gx_P_fr g4 hS rfl _ r6⟩
      rw [g2, r3]
      exact (gx_wrap hF0 hF1).1
    have f28 : mi_f h1 14028 = mi_f h 14028 := me_f (c := 14028) g4 hS rfl rfl
    refine ⟨_, me_comesx g1 (f28.trans hm) ⟨by decide, by decide⟩ hR1, ?_⟩
    intro w h2 hw hq
    obtain ⟨q1, q2, ⟨z, rfl⟩, q3⟩ := hq
    rw [ez] at q3
    have k29 : mi_f h2 14029 = mi_f h 14029 := (me_f (c := 14029) q2 g1 rfl rfl).trans (me_f (c := 14029) g4 hS rfl rfl)
    have k32 : mi_f h2 14032 = mi_f h 14032 := (me_f (c := 14032) q2 g1 rfl rfl).trans (me_f (c := 14032) g4 hS rfl rfl)
    have kst : wk_stk h2 = wk_stk h := (wk_stk_fr q2 g1 rfl).trans (wk_stk_fr g4 hS rfl)
    have k114 : mi_a h2 114 zr.toNat = mi_a h 114 zr.toNat := (me_a (k := 114) q2 g1 rfl rfl).trans (me_a (k := 114) g4 hS rfl rfl)
    refine mt_enB q1 ok (hw _ rfl) ?_
    intro b1 b2
    refine ⟨by omega, ?_⟩
    intro h3 s1 s29 s31 s32 a5 a6 a7 s4
    have hFr : ab_Fr wr_W1 h h3 := ((g4.wide (fun c hc => ab_swr_ok (by decide) hc)).trans (q2.wide (fun c hc => ab_swr_ok (by decide) hc))).trans (s4.wide (fun c hc => ab_swr_ok (by decide) hc))
    have l44 : mi_f h3 14044 = mi_f h2 14044 := me_f (c := 14044) s4 q1 rfl rfl
    refine ⟨rfl, s1, hFr, ((me_f (c := 14034) s4 q1 rfl rfl).trans (me_f (c := 14034) q2 g1 rfl rfl)).trans (me_f (c := 14034) g4 hS rfl rfl), ((me_f (c := 14033) s4 q1 rfl rfl).trans (me_f (c := 14033) q2 g1 rfl rfl)).trans (me_f (c := 14033) g4 hS rfl rfl), ?_⟩
    unfold gm_en
    rw [if_neg (by omega)]
    rcases q3 with ⟨e1, e2⟩ | ⟨e1, t, e2, e3⟩
    · refine Or.inl ⟨?_, l44.trans e2⟩
      rw [e1]
      rfl
    · refine Or.inr ⟨l44.trans e1, ((1, mi_a h 114 zr.toNat, 0) :: (2, 1, 0) :: wk_stk h, gm_d t), ?_, ?_, ?_, ?_⟩
      · rw [e2]
        rfl
      · have := wk_push2 (by omega) s29 a5 a6 a7
        rw [k114, kst] at this
        exact this
      · obtain ⟨t1, t2, t3, t4, t5, t6⟩ := e3
        have eD : gm_D t = gm_D s := by
          unfold gm_c at e2
          split at e2
          · cases e2
          · injection e2 with e2
            rw [← e2, gm_D_mk, gm_D_mk]
        unfold gm_d gx_R
        rw [gm_T_mk, gm_X_mk, gm_F_mk, gm_D_mk, gm_P_mk]
        refine ⟨gx_T_fr t1 s4 q1 rfl, (me_l (c := 14047) s4 q1 rfl rfl).trans t2, (me_f (c := 14035) s4 q1 rfl rfl).trans t3, ?_, (me_f (c := 14030) s4 q1 rfl rfl).trans t5, gx_P_fr s4 q1 rfl _ t6⟩
        rw [s31, t4, eD]
        exact (gx_wrap hD0 (by omega)).2
      · show _ = 0 + (1 + wk_ul (wk_stk h))
        omega
  · intro b1 b2 c1 c2
    omega
  · intro b1 b2 c1 c2 h1 g1 g2 g3
    refine ⟨rfl, g1, g3.wide (fun c hc => ab_swr_ok (by decide) hc), me_f (c := 14034) g3 hS rfl rfl, me_f (c := 14033) g3 hS rfl rfl, Or.inl ⟨?_, g2⟩⟩
    unfold gm_en
    rw [if_pos (by omega)]
end GX2
