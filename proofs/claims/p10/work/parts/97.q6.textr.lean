/-! texts: the reference's type, clear, sample, exactly -/
section TXR
variable {d : Nat} {h : sm_H}
def rt_W : List (Nat × Nat) := [(13952, 13954), (14080, 14081)]
def rt_V : List (Nat × Nat) := [(13952, 13953), (13954, 13955), (14208, 14209)]
/-- a word's bytes -/
def sb_y (w : Int64) (k : Int) : Int := ((w >>> ((Int32.ofInt ((8 : Int) * k)).toInt64 &&& 63)) &&& (Int64.ofNat 255)).toInt32.toInt
def say_l (w : Int64) : Nat → Int → List Int
  | 0, _ => []
  | m + 1, k => if 0 < sb_y w k then sb_y w k :: say_l w m (k + 1) else say_l w m (k + 1)
theorem say_c {w : Int64} {m : Nat} {k : Int} : say_l w (m + 1) k = if 0 < sb_y w k then sb_y w k :: say_l w m (k + 1) else say_l w m (k + 1) := rfl
def syy_W : List (Nat × Nat) := [(13953, 13954), (14080, 14081)]
theorem sy_loop {zw : Int64} (hb : ∀ j : Nat, j < 8 → sb_y zw j ≤ 255) : ∀ (m k : Nat) (q4 : Option mi_V) (h : sm_H), k + m = 8 → (∀ v, q4 = some v → mi_ok v) → ab_Sh sx_sk h → mi_f h 13953 + (say_l zw m k).length ≤ 240 → me_E d 174 2 [some (.inr (.inr 109)), some (.inr (.inl zw)), none, some (.inl (k : Int)), q4] [] h (fun w h' => w = none ∧ ab_Sh sx_sk h' ∧ ab_Fr syy_W h h' ∧ mi_f h' 13953 = mi_f h 13953 + (say_l zw m k).length ∧ mi_a h' 110 = apl (say_l zw m k) (mi_f h 13953).toNat (mi_a h 110)) := by
  intro m
  induction m with
  | zero =>
    intro k q4 h hk o4 hS hl
    refine mt_syB hS ⟨by omega, by omega⟩ o4 ?_ (fun q => by exfalso; omega) (fun _ q => by exfalso; omega)
    intro c1 h1 g1 g2
    have e0 := me_nil g2
    subst e0
    refine ⟨rfl, hS, ab_Fr.refl, ?_, rfl⟩
    show _ = _ + ((0 : Nat) : Int)
    omega
  | succ m ih =>
    intro k q4 h hk o4 hS hl
    have ok : mi_in (k : Int) := ⟨by omega, by omega⟩
    have hbk := hb k (by omega)
    have ek : (k : Int) + 1 = ((k + 1 : Nat) : Int) := by omega
    have b53 := me_fb (c := 13953) hS rfl
    refine mt_syB hS ok o4 (fun q => by exfalso; omega) ?_ ?_
    · intro c1 c2
      have c2 : sb_y zw k ≤ 0 := c2
      have es : say_l zw (m + 1) k = say_l zw m ((k : Int) + 1) := by rw [say_c, if_neg (by omega)]
      rw [es, ek] at hl ⊢
      refine ⟨by omega, fun h1 g1 g2 => ?_⟩
      have e0 := me_nil g2
      subst e0
      exact ih (k + 1) _ h1 (by omega) (me_oi (mi_inT _)) hS hl
    · intro b c1 c2
      have c2' : 0 < sb_y zw k := c2
      have es : say_l zw (m + 1) k = sb_y zw k :: say_l zw m ((k : Int) + 1) := by rw [say_c, if_pos c2']
      rw [es, ek, List.length_cons] at hl
      rw [es, ek]
      refine ⟨⟨by omega, by omega, by omega, by omega, ⟨by show 0 ≤ sb_y zw k; omega, hbk⟩, by omega⟩, fun h1 g1 g2 g3 g4 => ?_⟩
      refine (ih (k + 1) _ h1 (by omega) (me_oi (mi_inT _)) g1 (by rw [g2]; omega)).imp (fun w h' hq => ?_)
      obtain ⟨r1, r2, r3, r4, r5⟩ := hq
      refine ⟨r1, r2, g4.trans r3, by rw [r4, g2, List.length_cons]; omega, ?_⟩
      rw [r5, g2, show (mi_f h 13953 + 1).toNat = (mi_f h 13953).toNat + 1 by omega]
      show _ = apl (say_l zw m ((k + 1 : Nat) : Int)) ((mi_f h 13953).toNat + 1) (fun j => if j = (mi_f h 13953).toNat then sb_y zw k else mi_a h 110 j)
      rw [show mi_a h1 110 = (fun j => if j = (mi_f h 13953).toNat then sb_y zw k else mi_a h 110 j) from funext g3]
theorem me_say {zw : Int64} (hb : ∀ j : Nat, j < 8 → sb_y zw j ≤ 255) (hS : ab_Sh sx_sk h) (hl : mi_f h 13953 + (say_l zw 8 0).length ≤ 240) : me_E d 174 0 [some (.inr (.inr 109)), some (.inr (.inl zw)), none, none, none] [] h (fun w h' => w = none ∧ ab_Sh sx_sk h' ∧ ab_Fr syy_W h h' ∧ mi_f h' 13953 = mi_f h 13953 + (say_l zw 8 0).length ∧ mi_a h' 110 = apl (say_l zw 8 0) (mi_f h 13953).toNat (mi_a h 110)) := by
  refine mt_syA hS (fun h1 g1 g2 => ?_)
  have e0 := me_nil g2
  subst e0
  exact sy_loop hb 8 0 none h1 (by decide) me_on hS hl
/-- acc is written, rest is to come -/
def rs_S (h0 : sm_H) (acc rest full : List Int) (h : sm_H) : Prop := ab_Sh sx_sk h ∧ ab_Fr rt_W h0 h ∧ mi_f h 13953 = acc.length ∧ mi_a h 110 = apl acc 0 (mi_a h0 110) ∧ acc ++ rest = full ∧ full.length ≤ 200
def rs_Q (h0 : sm_H) (full : List Int) (w : Option mi_V) (h' : sm_H) : Prop := (∃ y, w = some (.inl y) ∧ mi_in y) ∧ ab_Sh sx_sk h' ∧ ab_Fr rt_W h0 h' ∧ mi_f h' 13953 = full.length ∧ mi_a h' 110 = apl full 0 (mi_a h0 110)
theorem rs_say {h0 : sm_H} {zw : Int64} {acc rest full : List Int} {Q : Option mi_V → sm_H → Prop} {m pc : Nat} {ls : mi_L} {D : Nat} (hb : (List.range 8).all (fun j => decide (sb_y zw (j : Int) ≤ 255)) = true) (hs : rs_S h0 acc (say_l zw 8 0 ++ rest) full h) (K : ∀ h', rs_S h0 (acc ++ say_l zw 8 0) rest full h' → me_E D m pc ls [] h' Q) : ∃ Q1, me_E (d + 0) 174 0 (mi_entry 5 [.inr (.inr 109), .inr (.inl zw)]) [] h Q1 ∧ ∀ w h2, (∀ v, w = some v → mi_ok v) → Q1 w h2 → me_E D m pc ls (mi_back w []) h2 Q := by
  obtain ⟨s1, s2, s3, s4, s5, s6⟩ := hs
  have hl : acc.length + ((say_l zw 8 0).length + rest.length) = full.length := by rw [← s5, List.length_append, List.length_append]
  refine ⟨_, me_say (d := d + 0) (fun j hj => of_decide_eq_true (List.all_eq_true.mp hb j (List.mem_range.mpr hj))) s1 (by rw [s3]; omega), fun w h2 oww hq => ?_⟩
  obtain ⟨rfl, q1, q2, q3, q4⟩ := hq
  refine K h2 ⟨q1, s2.trans (q2.wide (fun c hc => ab_swr_ok (by decide) hc)), by rw [q3, s3, List.length_append]; omega, ?_, by rw [List.append_assoc]; exact s5, s6⟩
  rw [q4, s4, s3, apl_app, show 0 + acc.length = ((acc.length : Int)).toNat by omega]
end TXR
def rs_f0 : List Int := say_l (Int64.ofNat 2317137553972338757) 8 0 ++ (say_l (Int64.ofNat 2819389844338712616) 8 0 ++ (say_l (Int64.ofNat 3037994969327018029) 8 0 ++ (say_l (Int64.ofNat 5053105990967900960) 8 0 ++ (say_l (Int64.ofNat 2317707977301174304) 8 0 ++ (say_l (Int64.ofNat 5053084000116482172) 8 0 ++ (say_l (Int64.ofNat 2325557506642422048) 8 0 ++ (say_l (Int64.ofNat 8243102915232669757) 8 0 ++ (say_l (Int64.ofNat 2334392247088348192) 8 0 ++ (say_l (Int64.ofNat 2819329371148853372) 8 0 ++ (say_l (Int64.ofNat 171647017) 8 0 ++ ([])))))))))))
set_option maxRecDepth 20000 in
theorem rs_e0 : rs_f0 = sw_s11 := by decide +kernel
theorem rs_113 {d : Nat} {h0 h : sm_H} {zk : Int} {acc full : List Int} (ok : mi_in zk) (hs : rs_S h0 acc [] full h) : me_E (d + 1) 173 113 [some (.inr (.inr 109)), some (.inl zk)] [] h (rs_Q h0 full) := by
  obtain ⟨s1, s2, s3, s4, s5, s6⟩ := hs
  have e : acc = full := by rw [← s5]; exact (List.append_nil acc).symm
  have b := me_fb (c := 13953) s1 rfl
  refine mt_rs113 s1 ok (fun h1 g1 g2 => ?_)
  have e0 := me_nil g2
  subst e0
  exact ⟨⟨_, rfl, by omega, by omega⟩, s1, s2, by rw [s3, e], by rw [s4, e]⟩
theorem rs_106 {d : Nat} {h0 h : sm_H} {zk : Int} {acc full : List Int} (ok : mi_in zk) (hs : rs_S h0 acc (say_l (Int64.ofNat 171647017) 8 0 ++ ([])) full h) : me_E (d + 1) 173 106 [some (.inr (.inr 109)), some (.inl zk)] [] h (rs_Q h0 full) := by
  refine mt_rs106 hs.1 ok (fun h1 g1 g2 => ?_)
  have e0 := me_nil g2
  subst e0
  exact rs_say (d := d) (zw := Int64.ofNat 171647017) (by decide +kernel) hs (fun h' hs' => rs_113 ok hs')
theorem rs_99 {d : Nat} {h0 h : sm_H} {zk : Int} {acc full : List Int} (ok : mi_in zk) (hs : rs_S h0 acc (say_l (Int64.ofNat 2819329371148853372) 8 0 ++ (say_l (Int64.ofNat 171647017) 8 0 ++ ([]))) full h) : me_E (d + 1) 173 99 [some (.inr (.inr 109)), some (.inl zk)] [] h (rs_Q h0 full) := by
  refine mt_rs99 hs.1 ok (fun h1 g1 g2 => ?_)
  have e0 := me_nil g2
  subst e0
  exact rs_say (d := d) (zw := Int64.ofNat 2819329371148853372) (by decide +kernel) hs (fun h' hs' => rs_106 ok hs')
theorem rs_92 {d : Nat} {h0 h : sm_H} {zk : Int} {acc full : List Int} (ok : mi_in zk) (hs : rs_S h0 acc (say_l (Int64.ofNat 2334392247088348192) 8 0 ++ (say_l (Int64.ofNat 2819329371148853372) 8 0 ++ (say_l (Int64.ofNat 171647017) 8 0 ++ ([])))) full h) : me_E (d + 1) 173 92 [some (.inr (.inr 109)), some (.inl zk)] [] h (rs_Q h0 full) := by
  refine mt_rs92 hs.1 ok (fun h1 g1 g2 => ?_)
  have e0 := me_nil g2
  subst e0
  exact rs_say (d := d) (zw := Int64.ofNat 2334392247088348192) (by decide +kernel) hs (fun h' hs' => rs_99 ok hs')
theorem rs_85 {d : Nat} {h0 h : sm_H} {zk : Int} {acc full : List Int} (ok : mi_in zk) (hs : rs_S h0 acc (say_l (Int64.ofNat 8243102915232669757) 8 0 ++ (say_l (Int64.ofNat 2334392247088348192) 8 0 ++ (say_l (Int64.ofNat 2819329371148853372) 8 0 ++ (say_l (Int64.ofNat 171647017) 8 0 ++ ([]))))) full h) : me_E (d + 1) 173 85 [some (.inr (.inr 109)), some (.inl zk)] [] h (rs_Q h0 full) := by
  refine mt_rs85 hs.1 ok (fun h1 g1 g2 => ?_)
  have e0 := me_nil g2
  subst e0
  exact rs_say (d := d) (zw := Int64.ofNat 8243102915232669757) (by decide +kernel) hs (fun h' hs' => rs_92 ok hs')
theorem rs_78 {d : Nat} {h0 h : sm_H} {zk : Int} {acc full : List Int} (ok : mi_in zk) (hs : rs_S h0 acc (say_l (Int64.ofNat 2325557506642422048) 8 0 ++ (say_l (Int64.ofNat 8243102915232669757) 8 0 ++ (say_l (Int64.ofNat 2334392247088348192) 8 0 ++ (say_l (Int64.ofNat 2819329371148853372) 8 0 ++ (say_l (Int64.ofNat 171647017) 8 0 ++ ([])))))) full h) : me_E (d + 1) 173 78 [some (.inr (.inr 109)), some (.inl zk)] [] h (rs_Q h0 full) := by
  refine mt_rs78 hs.1 ok (fun h1 g1 g2 => ?_)
  have e0 := me_nil g2
  subst e0
  exact rs_say (d := d) (zw := Int64.ofNat 2325557506642422048) (by decide +kernel) hs (fun h' hs' => rs_85 ok hs')
theorem rs_71 {d : Nat} {h0 h : sm_H} {zk : Int} {acc full : List Int} (ok : mi_in zk) (hs : rs_S h0 acc (say_l (Int64.ofNat 5053084000116482172) 8 0 ++ (say_l (Int64.ofNat 2325557506642422048) 8 0 ++ (say_l (Int64.ofNat 8243102915232669757) 8 0 ++ (say_l (Int64.ofNat 2334392247088348192) 8 0 ++ (say_l (Int64.ofNat 2819329371148853372) 8 0 ++ (say_l (Int64.ofNat 171647017) 8 0 ++ ([]))))))) full h) : me_E (d + 1) 173 71 [some (.inr (.inr 109)), some (.inl zk)] [] h (rs_Q h0 full) := by
  refine mt_rs71 hs.1 ok (fun h1 g1 g2 => ?_)
  have e0 := me_nil g2
  subst e0
  exact rs_say (d := d) (zw := Int64.ofNat 5053084000116482172) (by decide +kernel) hs (fun h' hs' => rs_78 ok hs')
theorem rs_64 {d : Nat} {h0 h : sm_H} {zk : Int} {acc full : List Int} (ok : mi_in zk) (hs : rs_S h0 acc (say_l (Int64.ofNat 2317707977301174304) 8 0 ++ (say_l (Int64.ofNat 5053084000116482172) 8 0 ++ (say_l (Int64.ofNat 2325557506642422048) 8 0 ++ (say_l (Int64.ofNat 8243102915232669757) 8 0 ++ (say_l (Int64.ofNat 2334392247088348192) 8 0 ++ (say_l (Int64.ofNat 2819329371148853372) 8 0 ++ (say_l (Int64.ofNat 171647017) 8 0 ++ ([])))))))) full h) : me_E (d + 1) 173 64 [some (.inr (.inr 109)), some (.inl zk)] [] h (rs_Q h0 full) := by
  refine mt_rs64 hs.1 ok (fun h1 g1 g2 => ?_)
  have e0 := me_nil g2
  subst e0
  exact rs_say (d := d) (zw := Int64.ofNat 2317707977301174304) (by decide +kernel) hs (fun h' hs' => rs_71 ok hs')
theorem rs_57 {d : Nat} {h0 h : sm_H} {zk : Int} {acc full : List Int} (ok : mi_in zk) (hs : rs_S h0 acc (say_l (Int64.ofNat 5053105990967900960) 8 0 ++ (say_l (Int64.ofNat 2317707977301174304) 8 0 ++ (say_l (Int64.ofNat 5053084000116482172) 8 0 ++ (say_l (Int64.ofNat 2325557506642422048) 8 0 ++ (say_l (Int64.ofNat 8243102915232669757) 8 0 ++ (say_l (Int64.ofNat 2334392247088348192) 8 0 ++ (say_l (Int64.ofNat 2819329371148853372) 8 0 ++ (say_l (Int64.ofNat 171647017) 8 0 ++ ([]))))))))) full h) : me_E (d + 1) 173 57 [some (.inr (.inr 109)), some (.inl zk)] [] h (rs_Q h0 full) := by
  refine mt_rs57 hs.1 ok (fun h1 g1 g2 => ?_)
  have e0 := me_nil g2
  subst e0
  exact rs_say (d := d) (zw := Int64.ofNat 5053105990967900960) (by decide +kernel) hs (fun h' hs' => rs_64 ok hs')
theorem rs_50 {d : Nat} {h0 h : sm_H} {zk : Int} {acc full : List Int} (ok : mi_in zk) (hs : rs_S h0 acc (say_l (Int64.ofNat 3037994969327018029) 8 0 ++ (say_l (Int64.ofNat 5053105990967900960) 8 0 ++ (say_l (Int64.ofNat 2317707977301174304) 8 0 ++ (say_l (Int64.ofNat 5053084000116482172) 8 0 ++ (say_l (Int64.ofNat 2325557506642422048) 8 0 ++ (say_l (Int64.ofNat 8243102915232669757) 8 0 ++ (say_l (Int64.ofNat 2334392247088348192) 8 0 ++ (say_l (Int64.ofNat 2819329371148853372) 8 0 ++ (say_l (Int64.ofNat 171647017) 8 0 ++ ([])))))))))) full h) : me_E (d + 1) 173 50 [some (.inr (.inr 109)), some (.inl zk)] [] h (rs_Q h0 full) := by
  refine mt_rs50 hs.1 ok (fun h1 g1 g2 => ?_)
  have e0 := me_nil g2
  subst e0
  exact rs_say (d := d) (zw := Int64.ofNat 3037994969327018029) (by decide +kernel) hs (fun h' hs' => rs_57 ok hs')
theorem rs_43 {d : Nat} {h0 h : sm_H} {zk : Int} {acc full : List Int} (ok : mi_in zk) (hs : rs_S h0 acc (say_l (Int64.ofNat 2819389844338712616) 8 0 ++ (say_l (Int64.ofNat 3037994969327018029) 8 0 ++ (say_l (Int64.ofNat 5053105990967900960) 8 0 ++ (say_l (Int64.ofNat 2317707977301174304) 8 0 ++ (say_l (Int64.ofNat 5053084000116482172) 8 0 ++ (say_l (Int64.ofNat 2325557506642422048) 8 0 ++ (say_l (Int64.ofNat 8243102915232669757) 8 0 ++ (say_l (Int64.ofNat 2334392247088348192) 8 0 ++ (say_l (Int64.ofNat 2819329371148853372) 8 0 ++ (say_l (Int64.ofNat 171647017) 8 0 ++ ([]))))))))))) full h) : me_E (d + 1) 173 43 [some (.inr (.inr 109)), some (.inl zk)] [] h (rs_Q h0 full) := by
  refine mt_rs43 hs.1 ok (fun h1 g1 g2 => ?_)
  have e0 := me_nil g2
  subst e0
  exact rs_say (d := d) (zw := Int64.ofNat 2819389844338712616) (by decide +kernel) hs (fun h' hs' => rs_50 ok hs')
def rs_f1 : List Int := say_l (Int64.ofNat 7214902011022352464) 8 0 ++ (say_l (Int64.ofNat 2317137683982345573) 8 0 ++ (say_l (Int64.ofNat 2963459953415580012) 8 0 ++ (say_l (Int64.ofNat 7791345429930713130) 8 0 ++ (say_l (Int64.ofNat 4260542854493204073) 8 0 ++ (say_l (Int64.ofNat 7308253817175298826) 8 0 ++ (say_l (Int64.ofNat 2334392247088325236) 8 0 ++ (say_l (Int64.ofNat 4406526406190787682) 8 0 ++ (say_l (Int64.ofNat 6206078408341611040) 8 0 ++ (say_l (Int64.ofNat 7215365270489736992) 8 0 ++ (say_l (Int64.ofNat 2459101874769371759) 8 0 ++ (say_l (Int64.ofNat 2819348062750930288) 8 0 ++ (say_l (Int64.ofNat 2323048536703967291) 8 0 ++ (say_l (Int64.ofNat 7935479022009278830) 8 0 ++ (say_l (Int64.ofNat 2317982108911562101) 8 0 ++ (say_l (Int64.ofNat 6206009932588523569) 8 0 ++ (say_l (Int64.ofNat 670496) 8 0 ++ ([])))))))))))))))))
set_option maxRecDepth 20000 in
theorem rs_e1 : rs_f1 = sw_s12 := by decide +kernel
theorem rs_240 {d : Nat} {h0 h : sm_H} {zk : Int} {acc full : List Int} (ok : mi_in zk) (hs : rs_S h0 acc [] full h) : me_E (d + 1) 173 240 [some (.inr (.inr 109)), some (.inl zk)] [] h (rs_Q h0 full) := by
  obtain ⟨s1, s2, s3, s4, s5, s6⟩ := hs
  have e : acc = full := by rw [← s5]; exact (List.append_nil acc).symm
  have b := me_fb (c := 13953) s1 rfl
  refine mt_rs240 s1 ok (fun h1 g1 g2 => ?_)
  have e0 := me_nil g2
  subst e0
  exact ⟨⟨_, rfl, by omega, by omega⟩, s1, s2, by rw [s3, e], by rw [s4, e]⟩
theorem rs_233 {d : Nat} {h0 h : sm_H} {zk : Int} {acc full : List Int} (ok : mi_in zk) (hs : rs_S h0 acc (say_l (Int64.ofNat 670496) 8 0 ++ ([])) full h) : me_E (d + 1) 173 233 [some (.inr (.inr 109)), some (.inl zk)] [] h (rs_Q h0 full) := by
  refine mt_rs233 hs.1 ok (fun h1 g1 g2 => ?_)
  have e0 := me_nil g2
  subst e0
  exact rs_say (d := d) (zw := Int64.ofNat 670496) (by decide +kernel) hs (fun h' hs' => rs_240 ok hs')
theorem rs_226 {d : Nat} {h0 h : sm_H} {zk : Int} {acc full : List Int} (ok : mi_in zk) (hs : rs_S h0 acc (say_l (Int64.ofNat 6206009932588523569) 8 0 ++ (say_l (Int64.ofNat 670496) 8 0 ++ ([]))) full h) : me_E (d + 1) 173 226 [some (.inr (.inr 109)), some (.inl zk)] [] h (rs_Q h0 full) := by
  refine mt_rs226 hs.1 ok (fun h1 g1 g2 => ?_)
  have e0 := me_nil g2
  subst e0
  exact rs_say (d := d) (zw := Int64.ofNat 6206009932588523569) (by decide +kernel) hs (fun h' hs' => rs_233 ok hs')
theorem rs_219 {d : Nat} {h0 h : sm_H} {zk : Int} {acc full : List Int} (ok : mi_in zk) (hs : rs_S h0 acc (say_l (Int64.ofNat 2317982108911562101) 8 0 ++ (say_l (Int64.ofNat 6206009932588523569) 8 0 ++ (say_l (Int64.ofNat 670496) 8 0 ++ ([])))) full h) : me_E (d + 1) 173 219 [some (.inr (.inr 109)), some (.inl zk)] [] h (rs_Q h0 full) := by
  refine mt_rs219 hs.1 ok (fun h1 g1 g2 => ?_)
  have e0 := me_nil g2
  subst e0
  exact rs_say (d := d) (zw := Int64.ofNat 2317982108911562101) (by decide +kernel) hs (fun h' hs' => rs_226 ok hs')
theorem rs_212 {d : Nat} {h0 h : sm_H} {zk : Int} {acc full : List Int} (ok : mi_in zk) (hs : rs_S h0 acc (say_l (Int64.ofNat 7935479022009278830) 8 0 ++ (say_l (Int64.ofNat 2317982108911562101) 8 0 ++ (say_l (Int64.ofNat 6206009932588523569) 8 0 ++ (say_l (Int64.ofNat 670496) 8 0 ++ ([]))))) full h) : me_E (d + 1) 173 212 [some (.inr (.inr 109)), some (.inl zk)] [] h (rs_Q h0 full) := by
  refine mt_rs212 hs.1 ok (fun h1 g1 g2 => ?_)
  have e0 := me_nil g2
  subst e0
  exact rs_say (d := d) (zw := Int64.ofNat 7935479022009278830) (by decide +kernel) hs (fun h' hs' => rs_219 ok hs')
theorem rs_205 {d : Nat} {h0 h : sm_H} {zk : Int} {acc full : List Int} (ok : mi_in zk) (hs : rs_S h0 acc (say_l (Int64.ofNat 2323048536703967291) 8 0 ++ (say_l (Int64.ofNat 7935479022009278830) 8 0 ++ (say_l (Int64.ofNat 2317982108911562101) 8 0 ++ (say_l (Int64.ofNat 6206009932588523569) 8 0 ++ (say_l (Int64.ofNat 670496) 8 0 ++ ([])))))) full h) : me_E (d + 1) 173 205 [some (.inr (.inr 109)), some (.inl zk)] [] h (rs_Q h0 full) := by
  refine mt_rs205 hs.1 ok (fun h1 g1 g2 => ?_)
  have e0 := me_nil g2
  subst e0
  exact rs_say (d := d) (zw := Int64.ofNat 2323048536703967291) (by decide +kernel) hs (fun h' hs' => rs_212 ok hs')
theorem rs_198 {d : Nat} {h0 h : sm_H} {zk : Int} {acc full : List Int} (ok : mi_in zk) (hs : rs_S h0 acc (say_l (Int64.ofNat 2819348062750930288) 8 0 ++ (say_l (Int64.ofNat 2323048536703967291) 8 0 ++ (say_l (Int64.ofNat 7935479022009278830) 8 0 ++ (say_l (Int64.ofNat 2317982108911562101) 8 0 ++ (say_l (Int64.ofNat 6206009932588523569) 8 0 ++ (say_l (Int64.ofNat 670496) 8 0 ++ ([]))))))) full h) : me_E (d + 1) 173 198 [some (.inr (.inr 109)), some (.inl zk)] [] h (rs_Q h0 full) := by
  refine mt_rs198 hs.1 ok (fun h1 g1 g2 => ?_)
  have e0 := me_nil g2
  subst e0
  exact rs_say (d := d) (zw := Int64.ofNat 2819348062750930288) (by decide +kernel) hs (fun h' hs' => rs_205 ok hs')
theorem rs_191 {d : Nat} {h0 h : sm_H} {zk : Int} {acc full : List Int} (ok : mi_in zk) (hs : rs_S h0 acc (say_l (Int64.ofNat 2459101874769371759) 8 0 ++ (say_l (Int64.ofNat 2819348062750930288) 8 0 ++ (say_l (Int64.ofNat 2323048536703967291) 8 0 ++ (say_l (Int64.ofNat 7935479022009278830) 8 0 ++ (say_l (Int64.ofNat 2317982108911562101) 8 0 ++ (say_l (Int64.ofNat 6206009932588523569) 8 0 ++ (say_l (Int64.ofNat 670496) 8 0 ++ ([])))))))) full h) : me_E (d + 1) 173 191 [some (.inr (.inr 109)), some (.inl zk)] [] h (rs_Q h0 full) := by
  refine mt_rs191 hs.1 ok (fun h1 g1 g2 => ?_)
  have e0 := me_nil g2
  subst e0
  exact rs_say (d := d) (zw := Int64.ofNat 2459101874769371759) (by decide +kernel) hs (fun h' hs' => rs_198 ok hs')
theorem rs_184 {d : Nat} {h0 h : sm_H} {zk : Int} {acc full : List Int} (ok : mi_in zk) (hs : rs_S h0 acc (say_l (Int64.ofNat 7215365270489736992) 8 0 ++ (say_l (Int64.ofNat 2459101874769371759) 8 0 ++ (say_l (Int64.ofNat 2819348062750930288) 8 0 ++ (say_l (Int64.ofNat 2323048536703967291) 8 0 ++ (say_l (Int64.ofNat 7935479022009278830) 8 0 ++ (say_l (Int64.ofNat 2317982108911562101) 8 0 ++ (say_l (Int64.ofNat 6206009932588523569) 8 0 ++ (say_l (Int64.ofNat 670496) 8 0 ++ ([]))))))))) full h) : me_E (d + 1) 173 184 [some (.inr (.inr 109)), some (.inl zk)] [] h (rs_Q h0 full) := by
  refine mt_rs184 hs.1 ok (fun h1 g1 g2 => ?_)
  have e0 := me_nil g2
  subst e0
  exact rs_say (d := d) (zw := Int64.ofNat 7215365270489736992) (by decide +kernel) hs (fun h' hs' => rs_191 ok hs')
theorem rs_177 {d : Nat} {h0 h : sm_H} {zk : Int} {acc full : List Int} (ok : mi_in zk) (hs : rs_S h0 acc (say_l (Int64.ofNat 6206078408341611040) 8 0 ++ (say_l (Int64.ofNat 7215365270489736992) 8 0 ++ (say_l (Int64.ofNat 2459101874769371759) 8 0 ++ (say_l (Int64.ofNat 2819348062750930288) 8 0 ++ (say_l (Int64.ofNat 2323048536703967291) 8 0 ++ (say_l (Int64.ofNat 7935479022009278830) 8 0 ++ (say_l (Int64.ofNat 2317982108911562101) 8 0 ++ (say_l (Int64.ofNat 6206009932588523569) 8 0 ++ (say_l (Int64.ofNat 670496) 8 0 ++ ([])))))))))) full h) : me_E (d + 1) 173 177 [some (.inr (.inr 109)), some (.inl zk)] [] h (rs_Q h0 full) := by
  refine mt_rs177 hs.1 ok (fun h1 g1 g2 => ?_)
  have e0 := me_nil g2
  subst e0
  exact rs_say (d := d) (zw := Int64.ofNat 6206078408341611040) (by decide +kernel) hs (fun h' hs' => rs_184 ok hs')
theorem rs_170 {d : Nat} {h0 h : sm_H} {zk : Int} {acc full : List Int} (ok : mi_in zk) (hs : rs_S h0 acc (say_l (Int64.ofNat 4406526406190787682) 8 0 ++ (say_l (Int64.ofNat 6206078408341611040) 8 0 ++ (say_l (Int64.ofNat 7215365270489736992) 8 0 ++ (say_l (Int64.ofNat 2459101874769371759) 8 0 ++ (say_l (Int64.ofNat 2819348062750930288) 8 0 ++ (say_l (Int64.ofNat 2323048536703967291) 8 0 ++ (say_l (Int64.ofNat 7935479022009278830) 8 0 ++ (say_l (Int64.ofNat 2317982108911562101) 8 0 ++ (say_l (Int64.ofNat 6206009932588523569) 8 0 ++ (say_l (Int64.ofNat 670496) 8 0 ++ ([]))))))))))) full h) : me_E (d + 1) 173 170 [some (.inr (.inr 109)), some (.inl zk)] [] h (rs_Q h0 full) := by
  refine mt_rs170 hs.1 ok (fun h1 g1 g2 => ?_)
  have e0 := me_nil g2
  subst e0
  exact rs_say (d := d) (zw := Int64.ofNat 4406526406190787682) (by decide +kernel) hs (fun h' hs' => rs_177 ok hs')
theorem rs_163 {d : Nat} {h0 h : sm_H} {zk : Int} {acc full : List Int} (ok : mi_in zk) (hs : rs_S h0 acc (say_l (Int64.ofNat 2334392247088325236) 8 0 ++ (say_l (Int64.ofNat 4406526406190787682) 8 0 ++ (say_l (Int64.ofNat 6206078408341611040) 8 0 ++ (say_l (Int64.ofNat 7215365270489736992) 8 0 ++ (say_l (Int64.ofNat 2459101874769371759) 8 0 ++ (say_l (Int64.ofNat 2819348062750930288) 8 0 ++ (say_l (Int64.ofNat 2323048536703967291) 8 0 ++ (say_l (Int64.ofNat 7935479022009278830) 8 0 ++ (say_l (Int64.ofNat 2317982108911562101) 8 0 ++ (say_l (Int64.ofNat 6206009932588523569) 8 0 ++ (say_l (Int64.ofNat 670496) 8 0 ++ ([])))))))))))) full h) : me_E (d + 1) 173 163 [some (.inr (.inr 109)), some (.inl zk)] [] h (rs_Q h0 full) := by
  refine mt_rs163 hs.1 ok (fun h1 g1 g2 => ?_)
  have e0 := me_nil g2
  subst e0
  exact rs_say (d := d) (zw := Int64.ofNat 2334392247088325236) (by decide +kernel) hs (fun h' hs' => rs_170 ok hs')
theorem rs_156 {d : Nat} {h0 h : sm_H} {zk : Int} {acc full : List Int} (ok : mi_in zk) (hs : rs_S h0 acc (say_l (Int64.ofNat 7308253817175298826) 8 0 ++ (say_l (Int64.ofNat 2334392247088325236) 8 0 ++ (say_l (Int64.ofNat 4406526406190787682) 8 0 ++ (say_l (Int64.ofNat 6206078408341611040) 8 0 ++ (say_l (Int64.ofNat 7215365270489736992) 8 0 ++ (say_l (Int64.ofNat 2459101874769371759) 8 0 ++ (say_l (Int64.ofNat 2819348062750930288) 8 0 ++ (say_l (Int64.ofNat 2323048536703967291) 8 0 ++ (say_l (Int64.ofNat 7935479022009278830) 8 0 ++ (say_l (Int64.ofNat 2317982108911562101) 8 0 ++ (say_l (Int64.ofNat 6206009932588523569) 8 0 ++ (say_l (Int64.ofNat 670496) 8 0 ++ ([]))))))))))))) full h) : me_E (d + 1) 173 156 [some (.inr (.inr 109)), some (.inl zk)] [] h (rs_Q h0 full) := by
  refine mt_rs156 hs.1 ok (fun h1 g1 g2 => ?_)
  have e0 := me_nil g2
  subst e0
  exact rs_say (d := d) (zw := Int64.ofNat 7308253817175298826) (by decide +kernel) hs (fun h' hs' => rs_163 ok hs')
theorem rs_149 {d : Nat} {h0 h : sm_H} {zk : Int} {acc full : List Int} (ok : mi_in zk) (hs : rs_S h0 acc (say_l (Int64.ofNat 4260542854493204073) 8 0 ++ (say_l (Int64.ofNat 7308253817175298826) 8 0 ++ (say_l (Int64.ofNat 2334392247088325236) 8 0 ++ (say_l (Int64.ofNat 4406526406190787682) 8 0 ++ (say_l (Int64.ofNat 6206078408341611040) 8 0 ++ (say_l (Int64.ofNat 7215365270489736992) 8 0 ++ (say_l (Int64.ofNat 2459101874769371759) 8 0 ++ (say_l (Int64.ofNat 2819348062750930288) 8 0 ++ (say_l (Int64.ofNat 2323048536703967291) 8 0 ++ (say_l (Int64.ofNat 7935479022009278830) 8 0 ++ (say_l (Int64.ofNat 2317982108911562101) 8 0 ++ (say_l (Int64.ofNat 6206009932588523569) 8 0 ++ (say_l (Int64.ofNat 670496) 8 0 ++ ([])))))))))))))) full h) : me_E (d + 1) 173 149 [some (.inr (.inr 109)), some (.inl zk)] [] h (rs_Q h0 full) := by
  refine mt_rs149 hs.1 ok (fun h1 g1 g2 => ?_)
  have e0 := me_nil g2
  subst e0
  exact rs_say (d := d) (zw := Int64.ofNat 4260542854493204073) (by decide +kernel) hs (fun h' hs' => rs_156 ok hs')
theorem rs_142 {d : Nat} {h0 h : sm_H} {zk : Int} {acc full : List Int} (ok : mi_in zk) (hs : rs_S h0 acc (say_l (Int64.ofNat 7791345429930713130) 8 0 ++ (say_l (Int64.ofNat 4260542854493204073) 8 0 ++ (say_l (Int64.ofNat 7308253817175298826) 8 0 ++ (say_l (Int64.ofNat 2334392247088325236) 8 0 ++ (say_l (Int64.ofNat 4406526406190787682) 8 0 ++ (say_l (Int64.ofNat 6206078408341611040) 8 0 ++ (say_l (Int64.ofNat 7215365270489736992) 8 0 ++ (say_l (Int64.ofNat 2459101874769371759) 8 0 ++ (say_l (Int64.ofNat 2819348062750930288) 8 0 ++ (say_l (Int64.ofNat 2323048536703967291) 8 0 ++ (say_l (Int64.ofNat 7935479022009278830) 8 0 ++ (say_l (Int64.ofNat 2317982108911562101) 8 0 ++ (say_l (Int64.ofNat 6206009932588523569) 8 0 ++ (say_l (Int64.ofNat 670496) 8 0 ++ ([]))))))))))))))) full h) : me_E (d + 1) 173 142 [some (.inr (.inr 109)), some (.inl zk)] [] h (rs_Q h0 full) := by
  refine mt_rs142 hs.1 ok (fun h1 g1 g2 => ?_)
  have e0 := me_nil g2
  subst e0
  exact rs_say (d := d) (zw := Int64.ofNat 7791345429930713130) (by decide +kernel) hs (fun h' hs' => rs_149 ok hs')
theorem rs_135 {d : Nat} {h0 h : sm_H} {zk : Int} {acc full : List Int} (ok : mi_in zk) (hs : rs_S h0 acc (say_l (Int64.ofNat 2963459953415580012) 8 0 ++ (say_l (Int64.ofNat 7791345429930713130) 8 0 ++ (say_l (Int64.ofNat 4260542854493204073) 8 0 ++ (say_l (Int64.ofNat 7308253817175298826) 8 0 ++ (say_l (Int64.ofNat 2334392247088325236) 8 0 ++ (say_l (Int64.ofNat 4406526406190787682) 8 0 ++ (say_l (Int64.ofNat 6206078408341611040) 8 0 ++ (say_l (Int64.ofNat 7215365270489736992) 8 0 ++ (say_l (Int64.ofNat 2459101874769371759) 8 0 ++ (say_l (Int64.ofNat 2819348062750930288) 8 0 ++ (say_l (Int64.ofNat 2323048536703967291) 8 0 ++ (say_l (Int64.ofNat 7935479022009278830) 8 0 ++ (say_l (Int64.ofNat 2317982108911562101) 8 0 ++ (say_l (Int64.ofNat 6206009932588523569) 8 0 ++ (say_l (Int64.ofNat 670496) 8 0 ++ ([])))))))))))))))) full h) : me_E (d + 1) 173 135 [some (.inr (.inr 109)), some (.inl zk)] [] h (rs_Q h0 full) := by
  refine mt_rs135 hs.1 ok (fun h1 g1 g2 => ?_)
  have e0 := me_nil g2
  subst e0
  exact rs_say (d := d) (zw := Int64.ofNat 2963459953415580012) (by decide +kernel) hs (fun h' hs' => rs_142 ok hs')
theorem rs_128 {d : Nat} {h0 h : sm_H} {zk : Int} {acc full : List Int} (ok : mi_in zk) (hs : rs_S h0 acc (say_l (Int64.ofNat 2317137683982345573) 8 0 ++ (say_l (Int64.ofNat 2963459953415580012) 8 0 ++ (say_l (Int64.ofNat 7791345429930713130) 8 0 ++ (say_l (Int64.ofNat 4260542854493204073) 8 0 ++ (say_l (Int64.ofNat 7308253817175298826) 8 0 ++ (say_l (Int64.ofNat 2334392247088325236) 8 0 ++ (say_l (Int64.ofNat 4406526406190787682) 8 0 ++ (say_l (Int64.ofNat 6206078408341611040) 8 0 ++ (say_l (Int64.ofNat 7215365270489736992) 8 0 ++ (say_l (Int64.ofNat 2459101874769371759) 8 0 ++ (say_l (Int64.ofNat 2819348062750930288) 8 0 ++ (say_l (Int64.ofNat 2323048536703967291) 8 0 ++ (say_l (Int64.ofNat 7935479022009278830) 8 0 ++ (say_l (Int64.ofNat 2317982108911562101) 8 0 ++ (say_l (Int64.ofNat 6206009932588523569) 8 0 ++ (say_l (Int64.ofNat 670496) 8 0 ++ ([]))))))))))))))))) full h) : me_E (d + 1) 173 128 [some (.inr (.inr 109)), some (.inl zk)] [] h (rs_Q h0 full) := by
  refine mt_rs128 hs.1 ok (fun h1 g1 g2 => ?_)
  have e0 := me_nil g2
  subst e0
  exact rs_say (d := d) (zw := Int64.ofNat 2317137683982345573) (by decide +kernel) hs (fun h' hs' => rs_135 ok hs')
def rs_f2 : List Int := say_l (Int64.ofNat 2891411184374587460) 8 0 ++ (say_l (Int64.ofNat 2318270927254606368) 8 0 ++ (say_l (Int64.ofNat 2328959603089435746) 8 0 ++ (say_l (Int64.ofNat 6712369225264015913) 8 0 ++ (say_l (Int64.ofNat 7935409752451463968) 8 0 ++ (say_l (Int64.ofNat 2891374900493512033) 8 0 ++ (say_l (Int64.ofNat 2338042629976321568) 8 0 ++ (say_l (Int64.ofNat 737218325013405822) 8 0 ++ (say_l (Int64.ofNat 7935381194378387541) 8 0 ++ (say_l (Int64.ofNat 2819389844678339937) 8 0 ++ (say_l (Int64.ofNat 8390326386895364132) 8 0 ++ (say_l (Int64.ofNat 171647097) 8 0 ++ ([]))))))))))))
set_option maxRecDepth 20000 in
theorem rs_e2 : rs_f2 = sw_s13 := by decide +kernel
theorem rs_327 {d : Nat} {h0 h : sm_H} {zk : Int} {acc full : List Int} (ok : mi_in zk) (hs : rs_S h0 acc [] full h) : me_E (d + 1) 173 327 [some (.inr (.inr 109)), some (.inl zk)] [] h (rs_Q h0 full) := by
  obtain ⟨s1, s2, s3, s4, s5, s6⟩ := hs
  have e : acc = full := by rw [← s5]; exact (List.append_nil acc).symm
  have b := me_fb (c := 13953) s1 rfl
  refine mt_rs327 s1 ok (fun h1 g1 g2 => ?_)
  have e0 := me_nil g2
  subst e0
  exact ⟨⟨_, rfl, by omega, by omega⟩, s1, s2, by rw [s3, e], by rw [s4, e]⟩
theorem rs_320 {d : Nat} {h0 h : sm_H} {zk : Int} {acc full : List Int} (ok : mi_in zk) (hs : rs_S h0 acc (say_l (Int64.ofNat 171647097) 8 0 ++ ([])) full h) : me_E (d + 1) 173 320 [some (.inr (.inr 109)), some (.inl zk)] [] h (rs_Q h0 full) := by
  refine mt_rs320 hs.1 ok (fun h1 g1 g2 => ?_)
  have e0 := me_nil g2
  subst e0
  exact rs_say (d := d) (zw := Int64.ofNat 171647097) (by decide +kernel) hs (fun h' hs' => rs_327 ok hs')
theorem rs_313 {d : Nat} {h0 h : sm_H} {zk : Int} {acc full : List Int} (ok : mi_in zk) (hs : rs_S h0 acc (say_l (Int64.ofNat 8390326386895364132) 8 0 ++ (say_l (Int64.ofNat 171647097) 8 0 ++ ([]))) full h) : me_E (d + 1) 173 313 [some (.inr (.inr 109)), some (.inl zk)] [] h (rs_Q h0 full) := by
  refine mt_rs313 hs.1 ok (fun h1 g1 g2 => ?_)
  have e0 := me_nil g2
  subst e0
  exact rs_say (d := d) (zw := Int64.ofNat 8390326386895364132) (by decide +kernel) hs (fun h' hs' => rs_320 ok hs')
theorem rs_306 {d : Nat} {h0 h : sm_H} {zk : Int} {acc full : List Int} (ok : mi_in zk) (hs : rs_S h0 acc (say_l (Int64.ofNat 2819389844678339937) 8 0 ++ (say_l (Int64.ofNat 8390326386895364132) 8 0 ++ (say_l (Int64.ofNat 171647097) 8 0 ++ ([])))) full h) : me_E (d + 1) 173 306 [some (.inr (.inr 109)), some (.inl zk)] [] h (rs_Q h0 full) := by
  refine mt_rs306 hs.1 ok (fun h1 g1 g2 => ?_)
  have e0 := me_nil g2
  subst e0
  exact rs_say (d := d) (zw := Int64.ofNat 2819389844678339937) (by decide +kernel) hs (fun h' hs' => rs_313 ok hs')
theorem rs_299 {d : Nat} {h0 h : sm_H} {zk : Int} {acc full : List Int} (ok : mi_in zk) (hs : rs_S h0 acc (say_l (Int64.ofNat 7935381194378387541) 8 0 ++ (say_l (Int64.ofNat 2819389844678339937) 8 0 ++ (say_l (Int64.ofNat 8390326386895364132) 8 0 ++ (say_l (Int64.ofNat 171647097) 8 0 ++ ([]))))) full h) : me_E (d + 1) 173 299 [some (.inr (.inr 109)), some (.inl zk)] [] h (rs_Q h0 full) := by
  refine mt_rs299 hs.1 ok (fun h1 g1 g2 => ?_)
  have e0 := me_nil g2
  subst e0
  exact rs_say (d := d) (zw := Int64.ofNat 7935381194378387541) (by decide +kernel) hs (fun h' hs' => rs_306 ok hs')
theorem rs_292 {d : Nat} {h0 h : sm_H} {zk : Int} {acc full : List Int} (ok : mi_in zk) (hs : rs_S h0 acc (say_l (Int64.ofNat 737218325013405822) 8 0 ++ (say_l (Int64.ofNat 7935381194378387541) 8 0 ++ (say_l (Int64.ofNat 2819389844678339937) 8 0 ++ (say_l (Int64.ofNat 8390326386895364132) 8 0 ++ (say_l (Int64.ofNat 171647097) 8 0 ++ ([])))))) full h) : me_E (d + 1) 173 292 [some (.inr (.inr 109)), some (.inl zk)] [] h (rs_Q h0 full) := by
  refine mt_rs292 hs.1 ok (fun h1 g1 g2 => ?_)
  have e0 := me_nil g2
  subst e0
  exact rs_say (d := d) (zw := Int64.ofNat 737218325013405822) (by decide +kernel) hs (fun h' hs' => rs_299 ok hs')
theorem rs_285 {d : Nat} {h0 h : sm_H} {zk : Int} {acc full : List Int} (ok : mi_in zk) (hs : rs_S h0 acc (say_l (Int64.ofNat 2338042629976321568) 8 0 ++ (say_l (Int64.ofNat 737218325013405822) 8 0 ++ (say_l (Int64.ofNat 7935381194378387541) 8 0 ++ (say_l (Int64.ofNat 2819389844678339937) 8 0 ++ (say_l (Int64.ofNat 8390326386895364132) 8 0 ++ (say_l (Int64.ofNat 171647097) 8 0 ++ ([]))))))) full h) : me_E (d + 1) 173 285 [some (.inr (.inr 109)), some (.inl zk)] [] h (rs_Q h0 full) := by
  refine mt_rs285 hs.1 ok (fun h1 g1 g2 => ?_)
  have e0 := me_nil g2
  subst e0
  exact rs_say (d := d) (zw := Int64.ofNat 2338042629976321568) (by decide +kernel) hs (fun h' hs' => rs_292 ok hs')
theorem rs_278 {d : Nat} {h0 h : sm_H} {zk : Int} {acc full : List Int} (ok : mi_in zk) (hs : rs_S h0 acc (say_l (Int64.ofNat 2891374900493512033) 8 0 ++ (say_l (Int64.ofNat 2338042629976321568) 8 0 ++ (say_l (Int64.ofNat 737218325013405822) 8 0 ++ (say_l (Int64.ofNat 7935381194378387541) 8 0 ++ (say_l (Int64.ofNat 2819389844678339937) 8 0 ++ (say_l (Int64.ofNat 8390326386895364132) 8 0 ++ (say_l (Int64.ofNat 171647097) 8 0 ++ ([])))))))) full h) : me_E (d + 1) 173 278 [some (.inr (.inr 109)), some (.inl zk)] [] h (rs_Q h0 full) := by
  refine mt_rs278 hs.1 ok (fun h1 g1 g2 => ?_)
  have e0 := me_nil g2
  subst e0
  exact rs_say (d := d) (zw := Int64.ofNat 2891374900493512033) (by decide +kernel) hs (fun h' hs' => rs_285 ok hs')
theorem rs_271 {d : Nat} {h0 h : sm_H} {zk : Int} {acc full : List Int} (ok : mi_in zk) (hs : rs_S h0 acc (say_l (Int64.ofNat 7935409752451463968) 8 0 ++ (say_l (Int64.ofNat 2891374900493512033) 8 0 ++ (say_l (Int64.ofNat 2338042629976321568) 8 0 ++ (say_l (Int64.ofNat 737218325013405822) 8 0 ++ (say_l (Int64.ofNat 7935381194378387541) 8 0 ++ (say_l (Int64.ofNat 2819389844678339937) 8 0 ++ (say_l (Int64.ofNat 8390326386895364132) 8 0 ++ (say_l (Int64.ofNat 171647097) 8 0 ++ ([]))))))))) full h) : me_E (d + 1) 173 271 [some (.inr (.inr 109)), some (.inl zk)] [] h (rs_Q h0 full) := by
  refine mt_rs271 hs.1 ok (fun h1 g1 g2 => ?_)
  have e0 := me_nil g2
  subst e0
  exact rs_say (d := d) (zw := Int64.ofNat 7935409752451463968) (by decide +kernel) hs (fun h' hs' => rs_278 ok hs')
theorem rs_264 {d : Nat} {h0 h : sm_H} {zk : Int} {acc full : List Int} (ok : mi_in zk) (hs : rs_S h0 acc (say_l (Int64.ofNat 6712369225264015913) 8 0 ++ (say_l (Int64.ofNat 7935409752451463968) 8 0 ++ (say_l (Int64.ofNat 2891374900493512033) 8 0 ++ (say_l (Int64.ofNat 2338042629976321568) 8 0 ++ (say_l (Int64.ofNat 737218325013405822) 8 0 ++ (say_l (Int64.ofNat 7935381194378387541) 8 0 ++ (say_l (Int64.ofNat 2819389844678339937) 8 0 ++ (say_l (Int64.ofNat 8390326386895364132) 8 0 ++ (say_l (Int64.ofNat 171647097) 8 0 ++ ([])))))))))) full h) : me_E (d + 1) 173 264 [some (.inr (.inr 109)), some (.inl zk)] [] h (rs_Q h0 full) := by
  refine mt_rs264 hs.1 ok (fun h1 g1 g2 => ?_)
  have e0 := me_nil g2
  subst e0
  exact rs_say (d := d) (zw := Int64.ofNat 6712369225264015913) (by decide +kernel) hs (fun h' hs' => rs_271 ok hs')
theorem rs_257 {d : Nat} {h0 h : sm_H} {zk : Int} {acc full : List Int} (ok : mi_in zk) (hs : rs_S h0 acc (say_l (Int64.ofNat 2328959603089435746) 8 0 ++ (say_l (Int64.ofNat 6712369225264015913) 8 0 ++ (say_l (Int64.ofNat 7935409752451463968) 8 0 ++ (say_l (Int64.ofNat 2891374900493512033) 8 0 ++ (say_l (Int64.ofNat 2338042629976321568) 8 0 ++ (say_l (Int64.ofNat 737218325013405822) 8 0 ++ (say_l (Int64.ofNat 7935381194378387541) 8 0 ++ (say_l (Int64.ofNat 2819389844678339937) 8 0 ++ (say_l (Int64.ofNat 8390326386895364132) 8 0 ++ (say_l (Int64.ofNat 171647097) 8 0 ++ ([]))))))))))) full h) : me_E (d + 1) 173 257 [some (.inr (.inr 109)), some (.inl zk)] [] h (rs_Q h0 full) := by
  refine mt_rs257 hs.1 ok (fun h1 g1 g2 => ?_)
  have e0 := me_nil g2
  subst e0
  exact rs_say (d := d) (zw := Int64.ofNat 2328959603089435746) (by decide +kernel) hs (fun h' hs' => rs_264 ok hs')
theorem rs_250 {d : Nat} {h0 h : sm_H} {zk : Int} {acc full : List Int} (ok : mi_in zk) (hs : rs_S h0 acc (say_l (Int64.ofNat 2318270927254606368) 8 0 ++ (say_l (Int64.ofNat 2328959603089435746) 8 0 ++ (say_l (Int64.ofNat 6712369225264015913) 8 0 ++ (say_l (Int64.ofNat 7935409752451463968) 8 0 ++ (say_l (Int64.ofNat 2891374900493512033) 8 0 ++ (say_l (Int64.ofNat 2338042629976321568) 8 0 ++ (say_l (Int64.ofNat 737218325013405822) 8 0 ++ (say_l (Int64.ofNat 7935381194378387541) 8 0 ++ (say_l (Int64.ofNat 2819389844678339937) 8 0 ++ (say_l (Int64.ofNat 8390326386895364132) 8 0 ++ (say_l (Int64.ofNat 171647097) 8 0 ++ ([])))))))))))) full h) : me_E (d + 1) 173 250 [some (.inr (.inr 109)), some (.inl zk)] [] h (rs_Q h0 full) := by
  refine mt_rs250 hs.1 ok (fun h1 g1 g2 => ?_)
  have e0 := me_nil g2
  subst e0
  exact rs_say (d := d) (zw := Int64.ofNat 2318270927254606368) (by decide +kernel) hs (fun h' hs' => rs_257 ok hs')
theorem me_sampler {d : Nat} {h : sm_H} {zk : Int} (hS : ab_Sh sx_sk h) (ok : mi_in zk) : me_E (d + 1) 173 0 [some (.inr (.inr 109)), some (.inl zk)] [] h (fun w h' => (∃ y, w = some (.inl y) ∧ mi_in y) ∧ ab_Sh sx_sk h' ∧ ab_Fr rt_W h h' ∧ ((0 ≤ zk ∧ zk ≤ 2 ∧ mi_f h' 13953 = (sw_k zk).length ∧ mi_a h' 110 = apl (sw_k zk) 0 (mi_a h 110)) ∨ (¬ (0 ≤ zk ∧ zk ≤ 2) ∧ ab_Fr [(13952, 13953)] h h'))) := by
  have go : ∀ (full : List Int) (h1 : sm_H), full.length ≤ 200 → 0 ≤ zk → zk ≤ 2 → full = sw_k zk → ab_Sh sx_sk h1 → mi_f h1 13953 = 0 → ab_Fr [(13952, 13954)] h h1 → rs_S h [] full full h1 ∧ ∀ w h', rs_Q h full w h' → ((∃ y, w = some (.inl y) ∧ mi_in y) ∧ ab_Sh sx_sk h' ∧ ab_Fr rt_W h h' ∧ ((0 ≤ zk ∧ zk ≤ 2 ∧ mi_f h' 13953 = (sw_k zk).length ∧ mi_a h' 110 = apl (sw_k zk) 0 (mi_a h 110)) ∨ (¬ (0 ≤ zk ∧ zk ≤ 2) ∧ ab_Fr [(13952, 13953)] h h'))) := by
    intro full h1 hf k0 k1 ef s1 s2 s3
    refine ⟨⟨s1, s3.wide (fun c hc => ab_swr_ok (by decide) hc), s2, funext fun i => me_a (k := 110) s3 hS rfl rfl, rfl, hf⟩, fun w h' hq => ?_⟩
    obtain ⟨q1, q2, q3, q4, q5⟩ := hq
    exact ⟨q1, q2, q3, Or.inl ⟨k0, k1, by rw [q4, ef], by rw [q5, ef]⟩⟩
  refine mt_rsA hS ok ?_ ?_ ?_ ?_ ?_
  · intro c1 h1 g1 g2 g3
    exact ⟨⟨0, rfl, fm_in0⟩, g1, g3.wide (fun c hc => ab_swr_ok (by decide) hc), Or.inr ⟨fun q => by omega, g3⟩⟩
  · intro c1 c2 c3 c4 h1 g1 g2 g3 g4
    obtain ⟨G1, G2⟩ := go rs_f2 h1 (by rw [rs_e2]; decide +kernel) c1 c2 (by rw [rs_e2]; unfold sw_k; rw [if_neg c3, if_neg c4]) g1 g3 g4
    exact rs_say (d := d) (zw := Int64.ofNat 2891411184374587460) (by decide +kernel) G1 (fun h' hs' => (rs_250 ok hs').imp G2)
  · intro c1 c2 c3 c4 h1 g1 g2 g3 g4
    obtain ⟨G1, G2⟩ := go rs_f1 h1 (by rw [rs_e1]; decide +kernel) c1 c2 (by rw [rs_e1]; unfold sw_k; rw [if_neg c3, if_pos c4]) g1 g3 g4
    exact rs_say (d := d) (zw := Int64.ofNat 7214902011022352464) (by decide +kernel) G1 (fun h' hs' => (rs_128 ok hs').imp G2)
  · intro c1 c2 c3 h1 g1 g2 g3 g4
    obtain ⟨G1, G2⟩ := go rs_f0 h1 (by rw [rs_e0]; decide +kernel) c1 c2 (by rw [rs_e0]; unfold sw_k; rw [if_pos c3]) g1 g3 g4
    exact rs_say (d := d) (zw := Int64.ofNat 2317137553972338757) (by decide +kernel) G1 (fun h' hs' => (rs_43 ok hs').imp G2)
  · intro c1 c2 h1 g1 g2 g3
    exact ⟨⟨0, rfl, fm_in0⟩, g1, g3.wide (fun c hc => ab_swr_ok (by decide) hc), Or.inr ⟨fun q => by omega, g3⟩⟩
