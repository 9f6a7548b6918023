/-! type and clear, exactly, on both sides -/
section SETR2
variable {d : Nat} {h : sm_H}
/-- a character is typed: room, character, answer, lengths, characters -/
def ef9 (m z y n n' : Int) (c c' : Nat → Int) : Prop := (tx_al z ∧ n < m ∧ y = 1 ∧ n' = n + 1 ∧ ∀ j, c' j = if j = n.toNat then z else c j) ∨ (¬ (tx_al z ∧ n < m) ∧ y = 0 ∧ n' = n ∧ ∀ j, c' j = c j)
def xt_Q (zt zc : Int) (h : sm_H) (w : Option mi_V) (h' : sm_H) : Prop := ab_Sh sx_sk h' ∧ ∃ y, w = some (.inl y) ∧ (((zt < 0 ∨ 1 < zt) ∧ mi_f h' 13952 = 1 ∧ y = 0 ∧ ab_Fr [(13952, 13953)] h h') ∨ (zt = 0 ∧ mi_f h' 13952 = 0 ∧ ab_Fr rt_W h h' ∧ ef9 240 zc y (mi_f h 13953) (mi_f h' 13953) (mi_a h 110) (mi_a h' 110)) ∨ (zt = 1 ∧ mi_f h' 13952 = 0 ∧ ab_Fr rt_V h h' ∧ ef9 160 zc y (mi_f h 13954) (mi_f h' 13954) (mi_a h 111) (mi_a h' 111)))
theorem me_typex {zt zc : Int} (hS : ab_Sh sx_sk h) (ot : mi_in zt) (z0 : 0 ≤ zc) (z1 : zc ≤ 65535) : me_E d 171 0 [some (.inr (.inr 109)), some (.inl zt), some (.inl zc)] [] h (xt_Q zt zc h) := by
  have oc : mi_in zc := ⟨by omega, by omega⟩
  have no : ∀ h1, ab_Sh sx_sk h1 → mi_f h1 13952 = 0 → ab_Fr [(13952, 13953)] h h1 → (zt = 0 → ¬ (tx_al zc ∧ mi_f h 13953 < 240)) → (zt = 1 → ¬ (tx_al zc ∧ mi_f h 13954 < 160)) → (zt = 0 ∨ zt = 1) → xt_Q zt zc h (some (.inl 0)) h1 := fun h1 g1 g0 g2 n n' q => by
    refine ⟨g1, 0, rfl, ?_⟩
    rcases q with q | q
    · exact Or.inr (Or.inl ⟨q, g0, g2.wide (fun c hc => ab_swr_ok (by decide) hc), Or.inr ⟨n q, rfl, me_f (c := 13953) g2 hS rfl rfl, fun i => me_a (k := 110) g2 hS rfl rfl⟩⟩)
    · exact Or.inr (Or.inr ⟨q, g0, g2.wide (fun c hc => ab_swr_ok (by decide) hc), Or.inr ⟨n' q, rfl, me_f (c := 13954) g2 hS rfl rfl, fun i => me_a (k := 111) g2 hS rfl rfl⟩⟩)
  have t45 : ∀ h1, ab_Sh sx_sk h1 → mi_f h1 13952 = 0 → ab_Fr [(13952, 13953)] h h1 → tx_al zc → (zt = 0 ∨ zt = 1) → me_E d 171 45 [some (.inr (.inr 109)), some (.inl zt), some (.inl zc)] [] h1 (xt_Q zt zc h) := by
    intro h1 g1 g0 g2 al hz
    have e53 : mi_f h1 13953 = mi_f h 13953 := me_f (c := 13953) g2 hS rfl rfl
    have e54 : mi_f h1 13954 = mi_f h 13954 := me_f (c := 13954) g2 hS rfl rfl
    have al' := al
    unfold tx_al at al'
    refine mt_rtB g1 ot oc ?_ ?_ ?_ ?_
    · intro b c1 c2
      refine ⟨by omega, fun h2 s1 s2 s3 s4 => ⟨s1, 1, rfl, Or.inr (Or.inr ⟨by omega, by rw [me_f (c := 13952) s4 g1 rfl rfl, g0], (g2.wide (fun c hc => ab_swr_ok (by decide) hc)).trans (s4.wide (fun c hc => ab_swr_ok (by decide) hc)), Or.inl ⟨al, by omega, rfl, by rw [s2, e54], fun j => ?_⟩⟩)⟩⟩
      rw [s3 j, e54, me_a (k := 111) g2 hS rfl rfl]
    · intro b c1 c2 h2 s1 s2
      have e0 := me_nil s2
      subst e0
      exact no h2 g1 g0 g2 (fun q => absurd q c1) (fun _ q => by have := q.2; omega) hz
    · intro b c1 c2
      refine ⟨by omega, fun h2 s1 s2 s3 s4 => ⟨s1, 1, rfl, Or.inr (Or.inl ⟨c1, by rw [me_f (c := 13952) s4 g1 rfl rfl, g0], (g2.wide (fun c hc => ab_swr_ok (by decide) hc)).trans (s4.wide (fun c hc => ab_swr_ok (by decide) hc)), Or.inl ⟨al, by omega, rfl, by rw [s2, e53], fun j => ?_⟩⟩)⟩⟩
      rw [s3 j, e53, me_a (k := 110) g2 hS rfl rfl]
    · intro b c1 c2 h2 s1 s2
      have e0 := me_nil s2
      subst e0
      exact no h2 g1 g0 g2 (fun _ q => by have := q.2; omega) (fun q => by omega) hz
  have nal : ¬ tx_al zc → ∀ m n : Int, ¬ (tx_al zc ∧ n < m) := fun q m n p => q p.1
  refine mt_rtA hS ot oc ?_ ?_ ?_ ?_ ?_ ?_
  · intro c1 h1 g1 g2 g3
    exact ⟨g1, 0, rfl, Or.inl ⟨Or.inl c1, g2, rfl, g3⟩⟩
  · intro c1 c2 c3 h1 g1 g2 g3
    exact t45 h1 g1 g2 g3 (Or.inl c3) (by omega)
  · intro c1 c2 c3 c4 h1 g1 g2 g3
    have q : ¬ tx_al zc := fun p => by unfold tx_al at p; omega
    exact no h1 g1 g2 g3 (fun _ => nal q _ _) (fun _ => nal q _ _) (by omega)
  · intro c1 c2 c3 c4 c5 h1 g1 g2 g3
    exact t45 h1 g1 g2 g3 (Or.inr ⟨c4, c5⟩) (by omega)
  · intro c1 c2 c3 c4 c5 h1 g1 g2 g3
    have q : ¬ tx_al zc := fun p => by unfold tx_al at p; omega
    exact no h1 g1 g2 g3 (fun _ => nal q _ _) (fun _ => nal q _ _) (by omega)
  · intro c1 c2 h1 g1 g2 g3
    exact ⟨g1, 0, rfl, Or.inl ⟨Or.inr c2, g2, rfl, g3⟩⟩
def xl_Q (zt : Int) (h : sm_H) (w : Option mi_V) (h' : sm_H) : Prop := ab_Sh sx_sk h' ∧ ∃ y, w = some (.inl y) ∧ (((zt < 0 ∨ 1 < zt) ∧ mi_f h' 13952 = 1 ∧ y = 0 ∧ ab_Fr [(13952, 13953)] h h') ∨ (zt = 0 ∧ mi_f h' 13952 = 0 ∧ ab_Fr [(13952, 13955)] h h' ∧ mi_f h' 13953 = 0 ∧ mi_f h' 13954 = mi_f h 13954 ∧ y = mi_f h 13953) ∨ (zt = 1 ∧ mi_f h' 13952 = 0 ∧ ab_Fr [(13952, 13955)] h h' ∧ mi_f h' 13953 = mi_f h 13953 ∧ mi_f h' 13954 = 0 ∧ y = mi_f h 13954))
theorem me_clearx {zt : Int} (hS : ab_Sh sx_sk h) (ot : mi_in zt) : me_E d 172 0 [some (.inr (.inr 109)), some (.inl zt), none] [] h (xl_Q zt h) := by
  refine mt_rcA hS ot ?_ ?_ ?_ ?_ ?_ ?_
  · intro c1 h1 g1 g2 g3
    exact ⟨g1, 0, rfl, Or.inl ⟨Or.inl c1, g2, rfl, g3⟩⟩
  · intro b b' c1 c2 c3 c4; exfalso; omega
  · intro b c1 c2 c3 c4
    exact ⟨b, fun h1 g1 g2 g3 g4 g5 => ⟨g1, _, rfl, Or.inr (Or.inr ⟨c4, g2, g5, g3, g4, rfl⟩)⟩⟩
  · intro b c1 c2 c3 c4
    exact ⟨b, fun h1 g1 g2 g3 g4 g5 => ⟨g1, _, rfl, Or.inr (Or.inl ⟨c3, g2, g5, g3, g4, rfl⟩)⟩⟩
  · intro c1 c2 c3 c4; exfalso; omega
  · intro c1 c2 h1 g1 g2 g3
    exact ⟨g1, 0, rfl, Or.inl ⟨Or.inr c2, g2, rfl, g3⟩⟩
end SETR2
section TYPC
variable {d : Nat} {h : sm_H}
theorem me_appg0 {zc : Int} (hS : ab_Sh sx_sk h) (z0 : 0 ≤ zc) (z1 : zc ≤ 65535) : me_E d 91 0 [some (.inr (.inr 52)), some (.inl zc), none] [] h (fun w h' => ab_Sh sx_sk h' ∧ ab_Fr [(6657, 6658), (6784, 6785)] h h' ∧ ∃ y, w = some (.inl y) ∧ ef9 240 zc y (mi_f h 6657) (mi_f h' 6657) (mi_a h 53) (mi_a h' 53)) := by
  have oc : mi_in zc := ⟨by omega, by omega⟩
  have f0 : ab_Fr [(6657, 6658), (6784, 6785)] h h := ab_Fr.refl
  have t24 : tx_al zc → me_E d 91 24 [some (.inr (.inr 52)), some (.inl zc), some (.inl 1)] [] h (fun w h' => ab_Sh sx_sk h' ∧ ab_Fr [(6657, 6658), (6784, 6785)] h h' ∧ ∃ y, w = some (.inl y) ∧ ef9 240 zc y (mi_f h 6657) (mi_f h' 6657) (mi_a h 53) (mi_a h' 53)) := fun al => by
    refine mt_apB hS oc ⟨by decide, by decide⟩ (fun q => absurd q (by decide)) (by intros; exfalso; omega) ?_ ?_
    · intro b c1 c2 c3 h1 g1 g2
      have e0 := me_nil g2
      subst e0
      refine me_castore (m := 91) (M := (3, 4, sb_91)) rfl rfl g1 z0 z1 c2 c3 (fun h2 s1 s2 s3 => ?_)
      have e57 : mi_f h2 6657 = mi_f h1 6657 := me_f (c := 6657) s3 g1 rfl rfl
      refine mt_apC s1 oc ⟨by decide, by decide⟩ (fun b => ⟨by omega, fun h3 t1 t2 t3 => ⟨t1, (s3.wide (fun c hc => ab_swr_ok (by decide) hc)).trans (t3.wide (fun c hc => ab_swr_ok (by decide) hc)), 1, rfl, Or.inl ⟨al, c3, rfl, by rw [t2, e57], fun j => ?_⟩⟩⟩)
      rw [me_a (k := 53) t3 s1 rfl rfl]
      exact s2 j
    · intro b c1 c2 c3 h1 g1 g2
      have e0 := me_nil g2
      subst e0
      exact ⟨g1, f0, 0, rfl, Or.inr ⟨fun q => by have := q.2; omega, rfl, rfl, fun _ => rfl⟩⟩
  have f24 : ¬ tx_al zc → me_E d 91 24 [some (.inr (.inr 52)), some (.inl zc), some (.inl 0)] [] h (fun w h' => ab_Sh sx_sk h' ∧ ab_Fr [(6657, 6658), (6784, 6785)] h h' ∧ ∃ y, w = some (.inl y) ∧ ef9 240 zc y (mi_f h 6657) (mi_f h' 6657) (mi_a h 53) (mi_a h' 53)) := fun al => by
    refine mt_apB hS oc ⟨by decide, by decide⟩ (fun q h1 g1 g2 => ?_) (fun _ q => absurd rfl q) (fun _ q => absurd rfl q) (fun _ q => absurd rfl q)
    have e0 := me_nil g2
    subst e0
    exact ⟨g1, f0, 0, rfl, Or.inr ⟨fun q => al q.1, rfl, rfl, fun _ => rfl⟩⟩
  refine mt_apA hS oc ?_ ?_ ?_ ?_ ?_
  · intro c1 c2 h1 g1 g2
    have e0 := me_nil g2
    subst e0
    exact f24 (fun q => by unfold tx_al at q; omega)
  · intro c1 c2 h1 g1 g2
    have e0 := me_nil g2
    subst e0
    exact t24 (Or.inl c2)
  · intro c1 c2 h1 g1 g2
    have e0 := me_nil g2
    subst e0
    exact t24 (Or.inr ⟨c1, c2⟩)
  · intro c1 c2 c3 h1 g1 g2
    have e0 := me_nil g2
    subst e0
    exact f24 (fun q => by unfold tx_al at q; omega)
  · intro c1 c2 c3; exfalso; omega
theorem me_typeg0 {zc : Int} (hS : ab_Sh sx_sk h) (z0 : 0 ≤ zc) (z1 : zc ≤ 65535) : me_E (d + 1) 95 0 [some (.inr (.inr 51)), some (.inl 0), some (.inl zc)] [] h (fun w h' => ab_Sh sx_sk h' ∧ ab_Fr [(6657, 6658), (6784, 6785)] h h' ∧ ∃ y, w = some (.inl y) ∧ ef9 240 zc y (mi_f h 6657) (mi_f h' 6657) (mi_a h 53) (mi_a h' 53)) := by
  have oc : mi_in zc := ⟨by omega, by omega⟩
  refine mt_tyA hS fm_in0 oc ?_ (fun q => absurd rfl q) (fun q => absurd rfl q)
  intro c1 h1 g1 g2
  have e0 := me_nil g2
  subst e0
  refine ⟨_, me_text0 (d := d + 0) hS, fun w h2 oww hq => ?_⟩
  obtain ⟨rfl, rfl⟩ := hq
  refine mt_tyC hS fm_in0 oc (fun h1 g1 g2 => ?_)
  have e0 := me_nil g2
  subst e0
  refine ⟨_, me_appg0 (d := d + 0) hS z0 z1, fun w h2 oww hq => ?_⟩
  obtain ⟨q1, q2, y, rfl, q3⟩ := hq
  have hy : y = 0 ∨ y = 1 := by
    rcases q3 with ⟨-, -, y1, -⟩ | ⟨-, y1, -⟩
    · exact Or.inr y1
    · exact Or.inl y1
  refine mt_tyB q1 fm_in0 oc ⟨by omega, by omega⟩ ⟨hy, fun h3 g1 g2 => ?_⟩
  have e0 := me_nil g2
  subst e0
  exact ⟨q1, q2, y, rfl, q3⟩
theorem me_clearg0 (hS : ab_Sh sx_sk h) : me_E (d + 1) 97 0 [some (.inr (.inr 51)), some (.inl 0), none] [] h (fun w h' => ab_Sh sx_sk h' ∧ ab_Fr [(6657, 6658)] h h' ∧ w = some (.inl (mi_f h 6657)) ∧ mi_f h' 6657 = 0) := by
  have b := me_fb (c := 6657) hS rfl
  refine mt_cwA hS fm_in0 ?_ (fun q => absurd rfl q) (fun q => absurd rfl q)
  intro c1 h1 g1 g2
  have e0 := me_nil g2
  subst e0
  refine ⟨_, me_text0 (d := d + 0) hS, fun w h2 oww hq => ?_⟩
  obtain ⟨rfl, rfl⟩ := hq
  refine mt_cwB hS fm_in0 (fun h1 g1 g2 => ?_)
  have e0 := me_nil g2
  subst e0
  refine ⟨_, me_text0 (d := d + 0) hS, fun w h2 oww hq => ?_⟩
  obtain ⟨rfl, rfl⟩ := hq
  exact mt_cwC hS fm_in0 ⟨by omega, by omega⟩ (fun h1 g1 g2 g3 => ⟨g1, g3, rfl, g2⟩)
theorem me_appg1 {zc : Int} (hS : ab_Sh sx_sk h) (z0 : 0 ≤ zc) (z1 : zc ≤ 65535) : me_E d 91 0 [some (.inr (.inr 54)), some (.inl zc), none] [] h (fun w h' => ab_Sh sx_sk h' ∧ ab_Fr [(6913, 6914), (7040, 7041)] h h' ∧ ∃ y, w = some (.inl y) ∧ ef9 160 zc y (mi_f h 6913) (mi_f h' 6913) (mi_a h 55) (mi_a h' 55)) := by
  have oc : mi_in zc := ⟨by omega, by omega⟩
  have f0 : ab_Fr [(6913, 6914), (7040, 7041)] h h := ab_Fr.refl
  have t24 : tx_al zc → me_E d 91 24 [some (.inr (.inr 54)), some (.inl zc), some (.inl 1)] [] h (fun w h' => ab_Sh sx_sk h' ∧ ab_Fr [(6913, 6914), (7040, 7041)] h h' ∧ ∃ y, w = some (.inl y) ∧ ef9 160 zc y (mi_f h 6913) (mi_f h' 6913) (mi_a h 55) (mi_a h' 55)) := fun al => by
    refine mt_a54B hS oc ⟨by decide, by decide⟩ (fun q => absurd q (by decide)) (by intros; exfalso; omega) ?_ ?_
    · intro b c1 c2 c3 h1 g1 g2
      have e0 := me_nil g2
      subst e0
      refine me_cast55 (m := 91) (M := (3, 4, sb_91)) rfl rfl g1 z0 z1 c2 c3 (fun h2 s1 s2 s3 => ?_)
      have e57 : mi_f h2 6913 = mi_f h1 6913 := me_f (c := 6913) s3 g1 rfl rfl
      refine mt_a54C s1 oc ⟨by decide, by decide⟩ (fun b => ⟨by omega, fun h3 t1 t2 t3 => ⟨t1, (s3.wide (fun c hc => ab_swr_ok (by decide) hc)).trans (t3.wide (fun c hc => ab_swr_ok (by decide) hc)), 1, rfl, Or.inl ⟨al, c3, rfl, by rw [t2, e57], fun j => ?_⟩⟩⟩)
      rw [me_a (k := 55) t3 s1 rfl rfl]
      exact s2 j
    · intro b c1 c2 c3 h1 g1 g2
      have e0 := me_nil g2
      subst e0
      exact ⟨g1, f0, 0, rfl, Or.inr ⟨fun q => by have := q.2; omega, rfl, rfl, fun _ => rfl⟩⟩
  have f24 : ¬ tx_al zc → me_E d 91 24 [some (.inr (.inr 54)), some (.inl zc), some (.inl 0)] [] h (fun w h' => ab_Sh sx_sk h' ∧ ab_Fr [(6913, 6914), (7040, 7041)] h h' ∧ ∃ y, w = some (.inl y) ∧ ef9 160 zc y (mi_f h 6913) (mi_f h' 6913) (mi_a h 55) (mi_a h' 55)) := fun al => by
    refine mt_a54B hS oc ⟨by decide, by decide⟩ (fun q h1 g1 g2 => ?_) (fun _ q => absurd rfl q) (fun _ q => absurd rfl q) (fun _ q => absurd rfl q)
    have e0 := me_nil g2
    subst e0
    exact ⟨g1, f0, 0, rfl, Or.inr ⟨fun q => al q.1, rfl, rfl, fun _ => rfl⟩⟩
  refine mt_a54A hS oc ?_ ?_ ?_ ?_ ?_
  · intro c1 c2 h1 g1 g2
    have e0 := me_nil g2
    subst e0
    exact f24 (fun q => by unfold tx_al at q; omega)
  · intro c1 c2 h1 g1 g2
    have e0 := me_nil g2
    subst e0
    exact t24 (Or.inl c2)
  · intro c1 c2 h1 g1 g2
    have e0 := me_nil g2
    subst e0
    exact t24 (Or.inr ⟨c1, c2⟩)
  · intro c1 c2 c3 h1 g1 g2
    have e0 := me_nil g2
    subst e0
    exact f24 (fun q => by unfold tx_al at q; omega)
  · intro c1 c2 c3; exfalso; omega
theorem me_typeg1 {zc : Int} (hS : ab_Sh sx_sk h) (z0 : 0 ≤ zc) (z1 : zc ≤ 65535) : me_E (d + 1) 95 0 [some (.inr (.inr 51)), some (.inl 1), some (.inl zc)] [] h (fun w h' => ab_Sh sx_sk h' ∧ ab_Fr [(6913, 6914), (7040, 7041)] h h' ∧ ∃ y, w = some (.inl y) ∧ ef9 160 zc y (mi_f h 6913) (mi_f h' 6913) (mi_a h 55) (mi_a h' 55)) := by
  have oc : mi_in zc := ⟨by omega, by omega⟩
  refine mt_tyA hS fm_in1 oc (fun q => absurd q (by decide)) ?_ (fun _ q => absurd rfl q)
  intro c0 c1 h1 g1 g2
  have e0 := me_nil g2
  subst e0
  refine ⟨_, me_text1 (d := d + 0) hS, fun w h2 oww hq => ?_⟩
  obtain ⟨rfl, rfl⟩ := hq
  refine mt_tyD hS fm_in1 oc (fun h1 g1 g2 => ?_)
  have e0 := me_nil g2
  subst e0
  refine ⟨_, me_appg1 (d := d + 0) hS z0 z1, fun w h2 oww hq => ?_⟩
  obtain ⟨q1, q2, y, rfl, q3⟩ := hq
  have hy : y = 0 ∨ y = 1 := by
    rcases q3 with ⟨-, -, y1, -⟩ | ⟨-, y1, -⟩
    · exact Or.inr y1
    · exact Or.inl y1
  refine mt_tyB q1 fm_in1 oc ⟨by omega, by omega⟩ ⟨hy, fun h3 g1 g2 => ?_⟩
  have e0 := me_nil g2
  subst e0
  exact ⟨q1, q2, y, rfl, q3⟩
theorem me_clearg1 (hS : ab_Sh sx_sk h) : me_E (d + 1) 97 0 [some (.inr (.inr 51)), some (.inl 1), none] [] h (fun w h' => ab_Sh sx_sk h' ∧ ab_Fr [(6913, 6914)] h h' ∧ w = some (.inl (mi_f h 6913)) ∧ mi_f h' 6913 = 0) := by
  have b := me_fb (c := 6913) hS rfl
  refine mt_cwA hS fm_in1 (fun q => absurd q (by decide)) ?_ (fun _ q => absurd rfl q)
  intro c0 c1 h1 g1 g2
  have e0 := me_nil g2
  subst e0
  refine ⟨_, me_text1 (d := d + 0) hS, fun w h2 oww hq => ?_⟩
  obtain ⟨rfl, rfl⟩ := hq
  refine mt_cwD hS fm_in1 (fun h1 g1 g2 => ?_)
  have e0 := me_nil g2
  subst e0
  refine ⟨_, me_text1 (d := d + 0) hS, fun w h2 oww hq => ?_⟩
  obtain ⟨rfl, rfl⟩ := hq
  exact mt_cwE hS fm_in1 ⟨by omega, by omega⟩ (fun h1 g1 g2 g3 => ⟨g1, g3, rfl, g2⟩)
end TYPC
