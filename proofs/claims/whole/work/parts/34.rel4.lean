/-! letters delivered -/
theorem rb_255m : ∀ m, m < 256 → m &&& (255 ^^^ 0) = m := by decide +kernel
theorem rb_n0 {x : Int32} (h : rb_p x) : x &&& (nI 0 ^^^ -1) = x := by
  obtain ⟨m, m1, rfl⟩ := h
  rw [rb_not m1 (by omega), rb_255m m m1]
theorem rb_h_and {x y : Int32} (h : rb_p x) (g : rb_p y) {q : Nat} (hq : q < 8) : rb_h (x &&& y) q = (rb_h x q && rb_h y q) := by
  obtain ⟨m, h1, rfl⟩ := h
  obtain ⟨k, h2, rfl⟩ := g
  rw [rb_and (by omega) (by omega), rb_h_nI (Nat.lt_of_le_of_lt Nat.and_le_left h1) hq, rb_h_nI h1 hq, rb_h_nI h2 hq, Nat.testBit_and]
theorem rb_pand {x y : Int32} (h : rb_p x) (g : rb_p y) : rb_p (x &&& y) := by
  obtain ⟨m, h1, rfl⟩ := h
  obtain ⟨k, h2, rfl⟩ := g
  exact ⟨m &&& k, Nat.lt_of_le_of_lt Nat.and_le_left h1, rb_and (by omega) (by omega)⟩
theorem rb_sub {x y : Int32} (h : rb_v x) (g : rb_v y) (e : x &&& y = x) {v : Nat} (hv : v < 7) (hy : rb_h y v = true) : (x ||| bh_bit v) &&& y = x ||| bh_bit v := by
  refine rb_ext (rb_pand (rb_vp (rb_vbit h hv)) (rb_vp g)) (rb_vp (rb_vbit h hv)) (fun q hq => ?_)
  have e2 : (rb_h x q && rb_h y q) = rb_h x q := by rw [← rb_h_and (rb_vp h) (rb_vp g) hq, e]
  rw [rb_h_and (rb_vp (rb_vbit h hv)) (rb_vp g) hq, rb_h_or (rb_vp h) (by omega) hq]
  by_cases hvq : v = q
  · subst hvq
    simp [hy]
  · rw [decide_eq_false hvq, Bool.or_false, e2]
theorem rl_prom {nv km : Nat} {C : cS} {S : mS} (h : Rl nv km C S) (v : Nat) (x : Int32) : Rl nv km (bc_r C 1 v x) (bh_r S 1 v x) := by
  obtain ⟨ha, rp, rw_, rz, rb, ru, rs⟩ := h
  refine ⟨ha, fun u hu => ?_, rw_, rz, rb, ru, rs⟩
  show (bh_r S 1 v x).2.2.1 1 u = (bh_r C.1 1 v x).2.2.1 1 u
  rw [rd_r, rd_r]
  by_cases e : u = v
  · simp [e]
  · simp [e]
    exact rp u hu
theorem rl_vote {nv km : Nat} {C : cS} {S : mS} (h : Rl nv km C S) {b v q : Nat} {x : Int64} (h1 : 1 ≤ b) (h2 : b ≤ km) (hv : v < nv) (hq : q < 8) (hf : rl_fix C.2 b q) (hx : x = C.2.2.2 b q) : Rl nv km (bc_l C 2 v (bh_wi (C.1.2.2.2 2 v) q (nI b))) (bh_l (bh_r S 2 (8 * v + q) (nI b)) 3 (8 * v + q) x) := by
  obtain ⟨ha, rp, rw_, rz, rb, ru, rs⟩ := h
  have hkm := ha.2.1.2.2.1
  refine ⟨ha, rp, fun u hu q' hq' => ?_, rz, rb, ru, rs⟩
  have e1 : (bc_l C 2 v (bh_wi (C.1.2.2.2 2 v) q (nI b))).1.2.2.2 2 u = if u = v then bh_wi (C.1.2.2.2 2 v) q (nI b) else C.1.2.2.2 2 u := by
    show (bh_l C.1 2 v _).2.2.2 2 u = _
    rw [rd_l]
    simp
  have e2 : (bh_l (bh_r S 2 (8 * v + q) (nI b)) 3 (8 * v + q) x).2.2.1 2 (8 * u + q') = if u = v ∧ q' = q then nI b else S.2.2.1 2 (8 * u + q') := by
    show (bh_r S 2 (8 * v + q) (nI b)).2.2.1 2 (8 * u + q') = _
    rw [rd_r]
    by_cases e : u = v ∧ q' = q
    · rw [if_pos e, if_pos ⟨rfl, by rw [e.1, e.2]⟩]
    · rw [if_neg e, if_neg (by omega)]
  have e3 : (bh_l (bh_r S 2 (8 * v + q) (nI b)) 3 (8 * v + q) x).2.2.2 3 (8 * u + q') = if u = v ∧ q' = q then x else S.2.2.2 3 (8 * u + q') := by
    rw [rd_l]
    by_cases e : u = v ∧ q' = q
    · rw [if_pos e, if_pos ⟨rfl, by rw [e.1, e.2]⟩]
    · rw [if_neg e, if_neg (by omega)]
      rfl
  rw [e1, e2, e3]
  have old := rw_ u hu q' hq'
  by_cases eu : u = v
  · subst eu
    rw [if_pos rfl, rb_at_wi _ hq hq' (by omega)]
    by_cases eq : q' = q
    · subst eq
      rw [if_pos rfl, if_pos ⟨rfl, rfl⟩, if_pos ⟨rfl, rfl⟩]
      exact ⟨rfl, Or.inr ⟨b, h1, h2, rfl, hx, hf⟩⟩
    · rw [if_neg eq, if_neg (fun e => eq e.2), if_neg (fun e => eq e.2)]
      exact old
  · rw [if_neg eu, if_neg (fun e => eu e.1), if_neg (fun e => eu e.1)]
    exact old
/-- a VOTE's answer -/
theorem rl_ans {nv km : Nat} {C : cS} {S : mS} (h : Rl nv km C S) {b v q : Nat} (h1 : 1 ≤ b) (h2 : b ≤ km) (hv : v < nv) (hq : q < 8) (hf : rl_fix C.2 b q) : Rl nv km (bc_q C 12 b q (C.2.2.1 12 b q ||| bh_bit v)) (bh_va2 S b v q) := by
  obtain ⟨⟨x1, x2, x3, x4, x5, x6, x7, x8⟩, y, z, ⟨⟨w11, w12, w13, w14, w15⟩, w2, w3, w4, g, w5, w6, w7⟩⟩ := rl_mf_self h h1 h2
  have hn := h.1.2.1.2.1
  have hv7 : rb_v (C.2.2.1 12 b q ||| bh_bit v) := rb_vbit (w2 q hq).1 (by omega)
  generalize hC' : bc_q C 12 b q (C.2.2.1 12 b q ||| bh_bit v) = C'
  have eq : ∀ f c q', C'.2.2.1 f c q' = if f = 12 ∧ c = b ∧ q' = q then C.2.2.1 12 b q ||| bh_bit v else C.2.2.1 f c q' := fun f c q' => by rw [← hC']; exact rd_q C 12 b q _ f c q'
  have ef : C'.2.1 = C.2.1 := by rw [← hC']; rfl
  have ew : C'.2.2.2 = C.2.2.2 := by rw [← hC']; rfl
  have hC1 : C'.1 = C.1 := by rw [← hC']; rfl
  -- the known places
  have ekn : ∀ i, i < 8 → bc_kn C' b i = if i = q then decide (C.2.1 3 b ≤ bh_bc (C.2.2.1 12 b q ||| bh_bit v)) else bc_kn C b i := by
    intro i hi
    unfold bc_kn
    rw [ef, eq]
    by_cases e : i = q
    · subst e
      rw [if_pos rfl, if_pos ⟨rfl, rfl, rfl⟩]
    · rw [if_neg e, if_neg (fun w => e w.2.2)]
  have e13 : (bh_va2 S b v q).2.2.1 13 b = bc_kp C' b := by
    unfold bh_va2
    rw [(y q hq).2.1, x4, rb_many hv7]
    by_cases hc : bh_bc (C.2.2.1 12 b q ||| bh_bit v) < C.2.1 3 b
    · rw [if_pos hc]
      show S.2.2.1 13 b = _
      rw [z]
      refine rb_ext (rl_kp_p C b) (rl_kp_p C' b) (fun i hi => ?_)
      rw [rl_kp_h C b hi, rl_kp_h C' b hi, ekn i hi]
      by_cases e : i = q
      · subst e
        rw [if_pos rfl]
        unfold bc_kn
        rw [decide_eq_false (Int32.not_le.mpr hc)]
        exact decide_eq_false (fun w => absurd (Int32.le_trans w (rb_bcm (w2 i hi).1 (by omega))) (Int32.not_le.mpr hc))
      · rw [if_neg e]
    · rw [if_neg hc]
      have : (bh_r (bh_va1 S b v q) 13 b (S.2.2.1 13 b ||| bh_bit q)).2.2.1 13 b = S.2.2.1 13 b ||| bh_bit q := by rw [rd_r]; simp
      rw [this, z]
      refine rb_ext (rb_pbit (rl_kp_p C b) hq) (rl_kp_p C' b) (fun i hi => ?_)
      rw [rb_h_or (rl_kp_p C b) hq hi, rl_kp_h C b hi, rl_kp_h C' b hi, ekn i hi]
      by_cases e : i = q
      · subst e
        rw [if_pos rfl, decide_eq_true (Int32.not_lt.mp hc)]
        simp
      · rw [if_neg e]
        simp [fun w : q = i => e w.symm]
  have er : ∀ r i, r ≠ 13 → (bh_va2 S b v q).2.2.1 r i = if r = 15 ∧ i = 8 * b + q then S.2.2.1 15 (8 * b + q) ||| bh_bit v else S.2.2.1 r i := by
    intro r i hr
    have e1 : (bh_va1 S b v q).2.2.1 r i = if r = 15 ∧ i = 8 * b + q then S.2.2.1 15 (8 * b + q) ||| bh_bit v else S.2.2.1 r i := rd_r S 15 _ _ r i
    unfold bh_va2
    split
    · exact e1
    · rw [rd_r, if_neg (fun w => hr w.1)]
      exact e1
  have er13 : ∀ c, c ≠ b → (bh_va2 S b v q).2.2.1 13 c = S.2.2.1 13 c := by
    intro c hc
    unfold bh_va2
    split
    · rfl
    · rw [rd_r, if_neg (fun w => hc w.2)]
      rfl
  have el : (bh_va2 S b v q).2.2.2 = S.2.2.2 := by unfold bh_va2; split <;> rfl
  have hS1 : (bh_va2 S b v q).1 = S.1 ∧ (bh_va2 S b v q).2.1 = S.2.1 := by unfold bh_va2; split <;> exact ⟨rfl, rfl⟩
  refine rl_one b h hC1 ⟨fun i q' j1 j2 hq' hf => ⟨?_, by rw [ew]⟩, fun i j1 j2 => by rw [ef]⟩ hS1 (fun r hr => ?_) (fun r hr => by rw [el]) (fun r c hc hr => ?_) (fun r c q' hc hq' hr => ?_) (fun c q' hc hq' => by rw [el]) (fun f c hc => by rw [ef]) (fun f c hc => ?_) (fun c hc => by rw [ew]) h1 h2 ?_
  · unfold rl_fix at hf ⊢
    rw [ef]
    exact hf
  · funext i
    rw [er r i (by omega), if_neg (by omega)]
  · by_cases h13 : r = 13
    · subst h13
      exact er13 c hc
    · rw [er r c h13, if_neg (by omega)]
  · rw [er r _ (by omega), if_neg (by omega)]
  · funext i
    rw [eq, if_neg (fun w => hc w.2.1)]
  · unfold rl_b rl_bi
    rw [e13, ef, er 5 b (by omega), er 6 b (by omega), er 7 b (by omega), er 8 b (by omega), er 9 b (by omega), er 10 b (by omega), er 11 b (by omega), er 12 b (by omega)]
    rw [if_neg (by omega), if_neg (by omega), if_neg (by omega), if_neg (by omega), if_neg (by omega), if_neg (by omega), if_neg (by omega), if_neg (by omega)]
    refine ⟨⟨x1, x2, x3, x4, x5, x6, x7, x8⟩, fun q' hq' => ?_, rfl, ⟨w11, w12, w13, w14, w15⟩, fun q' hq' => ?_, w3, ⟨w4.1, w4.2.1, fun e => absurd hf.1 e⟩, g, w5, w6, w7.trans (rl_mf_cg _ _ (fun i _ _ => by rw [ef])).symm⟩
    · obtain ⟨y1, y2, y3, y4⟩ := y q' hq'
      rw [er 14 _ (by omega), er 15 _ (by omega), er 16 _ (by omega), el, ew, eq, eq, eq, if_neg (by omega), if_neg (by omega : ¬ (16 = 15 ∧ _)), if_neg (by omega), if_neg (by omega : ¬ (13 = 12 ∧ _))]
      by_cases e : q' = q
      · subst e
        rw [if_pos ⟨rfl, rfl⟩, if_pos ⟨rfl, rfl, rfl⟩, y2]
        exact ⟨y1, rfl, y3, y4⟩
      · rw [if_neg (by omega), if_neg (fun w => e w.2.2)]
        exact ⟨y1, y2, y3, y4⟩
    · obtain ⟨y1, y2, y3, y4, y5⟩ := w2 q' hq'
      rw [eq, eq, eq, if_neg (by omega : ¬ (13 = 12 ∧ _)), if_neg (by omega : ¬ (10 = 12 ∧ _))]
      by_cases e : q' = q
      · subst e
        rw [if_pos ⟨rfl, rfl, rfl⟩]
        exact ⟨hv7, y2, y3, fun w => absurd hf.2 (by rw [w]; decide), y5⟩
      · rw [if_neg (fun w => e w.2.2)]
        exact ⟨y1, y2, y3, y4, y5⟩
/-- what was found in a READ's answer -/
theorem rl_tf {nv km : Nat} {C : cS} {S : mS} {b : Nat} {x : Int64} (h : Rl nv km C S) (h1 : 1 ≤ b) (h2 : b ≤ km) (h6 : C.2.1 6 b = nI 1) (hv : ∀ q, q < 8 → rl_v km C.2 q (bh_at x q) (S.2.2.1 29 q) (S.2.2.2 30 q)) (q : Nat) (hq : q ≤ 8) : Rl nv km (bc_tfL C km b x q) (bh_raL S b q) ∧ (bc_tfL C km b x q).2.1 6 b = nI 1 ∧ (∀ i, i < 8 → rl_v km (bc_tfL C km b x q).2 i (bh_at x i) ((bh_raL S b q).2.2.1 29 i) ((bh_raL S b q).2.2.2 30 i)) := by
  have hkm := h.1.2.1.2.2.1
  induction q with
  | zero => exact ⟨h, h6, hv⟩
  | succ q ih =>
    obtain ⟨i1, i2, i3⟩ := ih (by omega)
    have hq8 : q < 8 := by omega
    obtain ⟨e1, e2⟩ := i3 q hq8
    have x := rl_mf_self i1 h1 h2
    have e14 := (x.2.1 q hq8).1
    have hge := (x.2.2.2.2.1 q hq8).2.2.2.2
    unfold bc_tfL bh_raL
    rw [e14, e1]
    rcases e2 with ⟨e3, -⟩ | ⟨j, j1, j2, j3, j4, j5⟩
    · rw [show bh_ixb (bh_at x q) km = none by rw [e3]; exact if_neg (by rw [nI_toInt (by omega)]; omega)]
      rw [if_neg (by rw [e3]; exact Int32.not_lt.mpr hge)]
      exact ⟨i1, i2, i3⟩
    · rw [j3, bh_ixb_nI j1 j2 (by omega)]
      dsimp only
      by_cases hc : nI j ≤ (bc_tfL C km b x q).2.2.1 10 b q
      · rw [if_pos hc, if_neg (Int32.not_lt.mpr hc)]
        exact ⟨i1, i2, i3⟩
      · rw [if_neg hc, if_pos (Int32.not_le.mp hc)]
        have hjb : ¬ j = b := fun e => by rw [e] at j5; exact absurd j5.1 (by rw [i2]; decide)
        have r := rl_found (v := (bc_tfL C km b x q).2.2.2 j q) (j := j) i1 h1 h2 hq8 i2 (by omega)
        rw [j4]
        refine ⟨r, i2, fun i hi => ?_⟩
        have hle : rl_le km (bc_tfL C km b x q).2 (bc_w (bc_q (bc_f (bc_tfL C km b x q) 8 b ((bc_tfL C km b x q).2.1 8 b ||| bh_bit q)) 10 b q (nI j)) b q ((bc_tfL C km b x q).2.2.2 j q)).2 := by
          refine ⟨fun a p a1 a2 hp hf => ?_, fun a a1 a2 => rfl⟩
          have hab : ¬ a = b := fun e => by rw [e] at hf; exact absurd hf.1 (by rw [i2]; decide)
          refine ⟨⟨hf.1, ?_⟩, ?_⟩
          · show rb_h ((bc_f (bc_tfL C km b x q) 8 b _).2.1 8 a ||| _) p = true
            rw [rd_f, if_neg (fun w => hab w.2)]
            exact hf.2
          · rw [rd_w, if_neg (fun w => hab w.1)]
            rfl
        exact rl_v_mono hi hle (i3 i hi)
