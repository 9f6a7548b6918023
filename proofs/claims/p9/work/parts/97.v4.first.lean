/-! the class's firstFault: the least of all candidates -/
section FFX
variable {d : Nat} {hb h h' : sm_H} {U : Int}
theorem k_eq (hF : ab_Fr bm_W h h') (hS : ab_Sh sx_sk h) : (mi_f h' 7680 = mi_f h 7680 ∧ mi_f h' 7690 = mi_f h 7690) ∧ k_5 h' = k_5 h ∧ k_6 h' = k_6 h ∧ k_7 h' = k_7 h ∧ k_9 h' = k_9 h ∧ k_8 hb h' = k_8 hb h ∧ (mi_a h' 62 = mi_a h 62 ∧ mi_a h' 72 = mi_a h 72 ∧ mi_a h' 73 = mi_a h 73) := by
  have a62 : mi_a h' 62 = mi_a h 62 := funext fun i => me_a (k := 62) hF hS rfl rfl
  have a67 : mi_a h' 67 = mi_a h 67 := funext fun i => me_a (k := 67) hF hS rfl rfl
  have a72 : mi_a h' 72 = mi_a h 72 := funext fun i => me_a (k := 72) hF hS rfl rfl
  have a73 : mi_a h' 73 = mi_a h 73 := funext fun i => me_a (k := 73) hF hS rfl rfl
  have a82 : mi_a h' 82 = mi_a h 82 := funext fun i => me_a (k := 82) hF hS rfl rfl
  have a83 : mi_a h' 83 = mi_a h 83 := funext fun i => me_a (k := 83) hF hS rfl rfl
  have a89 : mi_a h' 89 = mi_a h 89 := funext fun i => me_a (k := 89) hF hS rfl rfl
  have b88 : mx_b h' 88 = mx_b h 88 := funext fun i => me_b (k := 88) hF hS rfl rfl
  have b90 : mx_b h' 90 = mx_b h 90 := funext fun i => me_b (k := 90) hF hS rfl rfl
  have b91 : mx_b h' 91 = mx_b h 91 := funext fun i => me_b (k := 91) hF hS rfl rfl
  refine ⟨⟨me_f (c := 7680) hF hS rfl rfl, me_f (c := 7690) hF hS rfl rfl⟩, ?_, ?_, ?_, ?_, ?_, a62, a72, a73⟩
  · unfold k_5; rw [a83, a62]
  · unfold k_6; rw [a82, a62]
  · unfold k_7; rw [a72, a89, a73]
  · unfold k_9; rw [a72, b90, b91, a73]
  · unfold k_8; rw [b88, a67]
theorem me_firstFault (hS : ab_Sh sx_sk h) (hF : cv_F hb U) (e : cv_eq hb h) (hP : k_pl hb h) : me_E (d + 4) 82 0 [some (.inr (.inr 93)), none] [] h (fun w h' => ab_Sh sx_sk h' ∧ ab_Fr bm_W h h' ∧ ∃ z, w = some (.inl z) ∧ lo_S (k_all hb h) z) := by
  obtain ⟨⟨n0, n1⟩, ⟨m0, m1⟩, p1, p2, p3⟩ := hP
  have q56 : ∀ x, (k_5 h (mi_f h 7680) x ∨ k_6 h (mi_f h 7680) x) → 0 < x := fun x q => by
    rcases q with ⟨r, r1, -, rfl⟩ | ⟨r, r1, -, rfl⟩
    · have := (p1 r r1).1; omega
    · have := (p1 r r1).1; omega
  have q79 : ∀ x, (k_7 h (mi_f h 7690) x ∨ k_9 h (mi_f h 7690) x) → 0 < x := fun x q => by
    rcases q with ⟨r, r1, r2, rfl⟩ | ⟨r, r1, r2, rfl⟩
    · have := (p2 r r1 r2.1).1; omega
    · have := (p2 r r1 r2.1).1; omega
  refine mt_yffA hS (fun h1 s1 s2 s3 => ?_)
  obtain ⟨⟨f1, f2⟩, E5, E6, E7, E9, E8, a62, a72, a73⟩ := k_eq (hb := hb) s3 hS
  refine ⟨_, me_checkRules (d := d) (S := fun _ => False) s1 (fun x q => q.elim) (by rw [f1]; exact n1) (by rw [f1, a62]; exact p1) (Or.inl ⟨s2, fun x q => q⟩), fun w h2 oww hq => ?_⟩
  obtain ⟨rfl, t1, t2, t3⟩ := hq
  have F2 : ab_Fr bm_W h h2 := s3.trans t2
  obtain ⟨⟨g1, g2⟩, G5, G6, G7, G9, G8, c62, c72, c73⟩ := k_eq (hb := hb) F2 hS
  rw [E5, E6, f1] at t3
  refine mt_yffB t1 (fun h3 u1 u2 => ?_)
  have e0 := me_nil u2
  subst e0
  refine ⟨_, me_checkRepeats (d := d) (S := fun x => k_5 h (mi_f h 7680) x ∨ k_6 h (mi_f h 7680) x) t1 q56 (by rw [g2]; exact m0) (by rw [g2]; exact m1) (by rw [g2, c72, c73]; exact p2) (lo_cg t3 (fun x => ⟨fun q => q.elim (fun y => y.elim) id, Or.inr⟩)), fun w h4 oww hq => ?_⟩
  obtain ⟨rfl, v1, v2, v3⟩ := hq
  rw [G7, G9, g2] at v3
  have F4 : ab_Fr bm_W h h4 := F2.trans v2
  refine mt_yffC v1 (fun h5 u1 u2 => ?_)
  have e0 := me_nil u2
  subst e0
  refine (ff_forms (d := d) hS e hF p3 (S := fun x => (k_5 h (mi_f h 7680) x ∨ k_6 h (mi_f h 7680) x) ∨ k_7 h (mi_f h 7690) x ∨ k_9 h (mi_f h 7690) x) (fun x q => q.elim (q56 x) (q79 x)) 70 0 h5 rfl v1 F4 (lo_cg v3 (fun x => ⟨Or.inl, fun q => q.elim id (fun ⟨F, hF', _⟩ => by omega)⟩)))
end FFX
