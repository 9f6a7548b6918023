/-! rule: both sides answer the same -/
/-- what is thrown -/
def ru_k (h : sm_H) (r w : Int) : Int := if mi_f h 13959 = 0 then 1 else if ¬ (0 ≤ r ∧ r < mi_f h 13961) then 2 else if ¬ (0 ≤ w ∧ w ≤ 3) then 3 else 0
/-- what is answered -/
def ru_v (h : sm_H) (r w : Int) : Int64 := if w = 0 then mx_b h 80 r.toNat else if w = 1 then mx_b h 81 r.toNat else if w = 2 then (Int32.ofInt (mi_a h 79 r.toNat)).toInt64 else if 1000 ≤ mi_a h 82 r.toNat then Int64.ofNat 18446744073709551615 else (Int32.ofInt (mi_a h 82 r.toNat + 1)).toInt64
section RU
variable {d : Nat} {h : sm_H} {zr zw : Int}
theorem me_rulec (hS : ab_Sh sx_sk h) (or : mi_in zr) (ow : mi_in zw) (h1 : mi_f h 6542 ≠ 0) (r0 : 0 ≤ zr) (r1 : zr < mi_f h 7680) (r2 : zr < 70) (w0 : 0 ≤ zw) (w1 : zw ≤ 3) : me_E (d + 2) 100 0 [some (.inr (.inr 51)), some (.inl zr), some (.inl zw)] [] h (fun w h' => w = some (.inr (.inl (ru_v h zr zw))) ∧ ab_Sh sx_sk h' ∧ ab_Fr [] h h') := by
  refine mt_rlA (d := d) hS or ow (fun _ _ a => absurd a (by omega)) (fun _ _ _ _ _ _ a => absurd a (by omega)) (fun _ _ _ _ _ a _ => ⟨⟨r0, r2⟩, fun g s f => ⟨?_, s, f⟩⟩) (fun _ _ _ _ _ _ a => absurd a (by omega)) (fun _ _ _ _ _ a _ => ⟨⟨r0, r2⟩, fun g s f => ⟨?_, s, f⟩⟩) (fun _ _ _ _ _ _ a => absurd a (by omega)) (fun _ _ _ _ _ a _ => ⟨⟨r0, r2⟩, fun g s f => ⟨?_, s, f⟩⟩) (fun _ _ _ _ _ a g s f => ?_) (fun _ _ _ _ _ a => absurd a (by omega)) (fun _ _ _ _ a => absurd a (by omega)) (fun _ a => absurd a h1)
  · unfold ru_v
    rw [if_pos (by omega)]
  · unfold ru_v
    rw [if_neg (by omega), if_pos (by omega)]
  · unfold ru_v
    rw [if_neg (by omega), if_neg (by omega), if_pos (by omega)]
  · have e : g = h := me_nil f
    subst e
    refine mt_rlB (d := d) s or ow (fun a => absurd a (by omega)) (fun _ a => absurd a (by omega)) (fun _ _ b => ⟨⟨r0, r2⟩, fun g2 s2 f2 => ⟨?_, s2, f2⟩⟩) (fun _ _ b => ⟨⟨r0, r2⟩, fun g2 s2 f2 => ?_⟩)
    · unfold ru_v
      rw [if_neg (by omega), if_neg (by omega), if_neg (by omega), if_pos b]
    · have e : g2 = g := me_nil f2
      subst e
      have bb := (me_ab (k := 82) (i := zr.toNat) s2 rfl (by decide) (by omega)).1
      refine mt_rlC (d := d) s2 or ow (fun a => absurd a (by omega)) (fun _ a => absurd a (by omega)) (fun _ _ => ⟨⟨⟨r0, r2⟩, ⟨by omega, by omega⟩⟩, fun g3 s3 f3 => ⟨?_, s3, f3⟩⟩)
      unfold ru_v
      rw [if_neg (by omega), if_neg (by omega), if_neg (by omega), if_neg (by omega)]
theorem i64_succ {v : Int} (v0 : -2147483648 ≤ v) (v1 : v < 1000) : (Int32.ofInt (v + 1)).toInt64 = (Int32.ofInt v).toInt64 + Int64.ofNat 1 := by
  apply Int64.toInt_inj.mp
  rw [Int64.toInt_add, Int32.toInt_toInt64, Int32.toInt_toInt64, Int32.toInt_ofInt_of_le (by omega) (by omega), Int32.toInt_ofInt_of_le (by omega) (by omega), show (Int64.ofNat 1).toInt = 1 from rfl, Int.bmod_eq_of_le (by omega) (by omega)]
theorem me_ruler (hS : ab_Sh sx_sk h) (or : mi_in zr) (ow : mi_in zw) (hR : rl_c h) : me_E d 204 0 [some (.inr (.inr 109)), some (.inl zr), some (.inl zw), none] [] h (fun w h' => ab_Sh sx_sk h' ∧ ab_Fr [(13952, 13953)] h h' ∧ mi_f h' 13952 = ru_k h zr zw ∧ ∃ y, w = some (.inr (.inl y)) ∧ (ru_k h zr zw = 0 → y = ru_v h zr zw)) := by
  refine mt_rjrA (d := d) hS or ow (fun _ a b g s e f => ⟨s, f, ?_, _, rfl, ?_⟩) (fun _ _ a b1 b2 c g s e f => ⟨s, f, ?_, _, rfl, ?_⟩) (fun _ hb a b1 b2 c1 c2 g s e f => ?_) (fun _ _ a b1 b2 c1 c2 g s e f => ⟨s, f, ?_, _, rfl, ?_⟩) (fun _ _ a b1 b2 g s e f => ⟨s, f, ?_, _, rfl, ?_⟩) (fun _ a g s e f => ⟨s, f, ?_, _, rfl, ?_⟩)
  · rw [e]; unfold ru_k; rw [if_neg a, if_pos (by omega)]
  · unfold ru_k; rw [if_neg a, if_pos (by omega)]; intro z; omega
  · rw [e]; unfold ru_k; rw [if_neg a, if_neg (by omega), if_pos (by omega)]
  · unfold ru_k; rw [if_neg a, if_neg (by omega), if_pos (by omega)]; intro z; omega
  · have ek : ru_k h zr zw = 0 := by unfold ru_k; rw [if_neg a, if_neg (by omega), if_neg (by omega)]
    obtain ⟨s1, s2, s3, s4, s5⟩ := (hR.2 a).2 zr.toNat (by omega)
    have g1 : mi_a g 114 zr.toNat = mi_a h 114 zr.toNat := me_a (k := 114) f hS rfl rfl
    have g2 : ∀ i, mi_a g 133 i = mi_a h 133 i := fun i => me_a (k := 133) f hS rfl rfl
    have g3 : ∀ i, mi_a g 144 i = mi_a h 144 i := fun i => me_a (k := 144) f hS rfl rfl
    have g4 : ∀ i, mx_b g 136 i = mx_b h 136 i := fun i => me_b (k := 136) f hS rfl rfl
    have g5 : ∀ i, mx_b g 138 i = mx_b h 138 i := fun i => me_b (k := 138) f hS rfl rfl
    have hr : (0 ≤ zr ∧ zr < 10) ∧ (0 ≤ mi_a g 114 zr.toNat ∧ mi_a g 114 zr.toNat < 80) := ⟨⟨b1, by omega⟩, by rw [g1]; exact s1⟩
    have hend : ∀ (y : Int64) (g' : sm_H), ab_Sh sx_sk g' → ab_Fr [] g g' → y = ru_v h zr zw → (ab_Sh sx_sk g' ∧ ab_Fr [(13952, 13953)] h g' ∧ mi_f g' 13952 = ru_k h zr zw ∧ ∃ y', some (.inr (.inl y) : mi_V) = some (.inr (.inl y')) ∧ (ru_k h zr zw = 0 → y' = ru_v h zr zw)) := by
      intro y g' t1 t2 t3
      have : g' = g := me_nil t2
      subst this
      exact ⟨t1, f, by rw [e, ek], y, rfl, fun _ => t3⟩
    refine mt_rjrB (d := d) s or ow (fun c => ⟨hr, fun g' t1 t2 => hend _ g' t1 t2 ?_⟩) (fun c => ⟨hr, fun g' t1 t2 => hend _ g' t1 t2 ?_⟩) (fun c k => ⟨hr, fun g' t1 t2 => hend _ g' t1 t2 ?_⟩) (fun c k => ⟨hr, fun g' t1 t2 => hend _ g' t1 t2 ?_⟩) (fun c k => ⟨hr, fun g' t1 t2 => hend _ g' t1 t2 ?_⟩) (fun c k => ⟨hr, fun g' t1 t2 => hend _ g' t1 t2 ?_⟩)
    · unfold ru_v
      rw [if_pos (by omega), s3, g4, g1]
    · unfold ru_v
      rw [if_neg (by omega), if_pos (by omega), s5, g5, g1]
    · rw [g2, g1] at k
      unfold ru_v
      rw [if_neg (by omega), if_neg (by omega), if_pos (by omega), s2, k]
      rfl
    · rw [g2, g1] at k
      have bb := me_ab (k := 133) (i := (mi_a h 114 zr.toNat).toNat) hS rfl (by decide) (by omega)
      have k1 : mi_a h 133 (mi_a h 114 zr.toNat).toNat = 1 := by omega
      unfold ru_v
      rw [if_neg (by omega), if_neg (by omega), if_pos (by omega), s2, k1]
      rfl
    · rw [g3, g1] at k ⊢
      have bb := (me_ab (k := 144) (i := (mi_a h 114 zr.toNat).toNat) hS rfl (by decide) (by omega)).1
      unfold ru_v
      rw [if_neg (by omega), if_neg (by omega), if_neg (by omega), s4, if_neg (by omega), i64_succ bb k]
    · rw [g3, g1] at k
      unfold ru_v
      rw [if_neg (by omega), if_neg (by omega), if_neg (by omega), s4, if_pos k]
  · rw [e]; unfold ru_k; rw [if_neg a, if_neg (by omega), if_pos (by omega)]
  · unfold ru_k; rw [if_neg a, if_neg (by omega), if_pos (by omega)]; intro z; omega
  · rw [e]; unfold ru_k; rw [if_neg a, if_pos (by omega)]
  · unfold ru_k; rw [if_neg a, if_pos (by omega)]; intro z; omega
  · rw [e]; unfold ru_k; rw [if_pos a]
  · unfold ru_k; rw [if_pos a]; intro z; omega
end RU
