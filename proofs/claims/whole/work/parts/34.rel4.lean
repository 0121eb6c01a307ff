/-! letters delivered -/
theorem rb_255m : ∀ m, m < 256 → m &&& (255 ^^^ 0) = m := by decide +kernel
theorem rb_n0 {x : Int32} (h : rb_p x) : x &&& (nI 0 ^^^ -1) = x := by
  obtain ⟨m, m1, rfl⟩ := h
  rw [rb_not m1 (by omega), rb_255m m m1]
theorem rb_h_and {x y : Int32} (h : rb_p x) (g : rb_p y) {q : Nat} (hq : q < 8) : rb_h (x &&& y) q = (rb_h x q && rb_h y q) := by
  obtain ⟨m, h1, rfl⟩ := h
  obtain ⟨k, h2, rfl⟩ := g
  rw [rb_and (by omega) (by omega), rb_h_nI (Nat.lt_of_le_of_lt Nat.and_le_left h1) hq, rb_h_nI h1 hq, rb_h_nI h2 hq, Nat.testBit_and]
theorem rb_pand {x y : Int32} (h : rb_p x) (g : rb_p y) : rb_p (x &&& y) := by
  obtain ⟨m, h1, rfl⟩ := h
  obtain ⟨k, h2, rfl⟩ := g
  exact ⟨m &&& k, Nat.lt_of_le_of_lt Nat.and_le_left h1, rb_and (by omega) (by omega)⟩
theorem rb_sub {x y : Int32} (h : rb_v x) (g : rb_v y) (e : x &&& y = x) {v : Nat} (hv : v < 7) (hy : rb_h y v = true) : (x ||| bh_bit v) &&& y = x ||| bh_bit v := by
  refine rb_ext (rb_pand (rb_vp (rb_vbit h hv)) (rb_vp g)) (rb_vp (rb_vbit h hv)) (fun q hq => ?_)
  have e2 : (rb_h x q && rb_h y q) = rb_h x q := by rw [← rb_h_and (rb_vp h) (rb_vp g) hq, e]
  rw [rb_h_and (rb_vp (rb_vbit h hv)) (rb_vp g) hq, rb_h_or (rb_vp h) (by omega) hq]
  by_cases hvq : v = q
  · subst hvq
    simp [hy]
  · rw [decide_eq_false hvq, Bool.or_false, e2]
theorem rl_prom {nv km : Nat} {C : cS} {S : mS} (h : Rl nv km C S) (v : Nat) (x : Int32) : Rl nv km (bc_r C 1 v x) (bh_r S 1 v x) := by
  obtain ⟨ha, rp, rw_, rz, rb, ru, rs⟩ := h
  refine ⟨ha, fun u hu => ?_, rw_, rz, rb, ru, rs⟩
  show (bh_r S 1 v x).2.2.1 1 u = (bh_r C.1 1 v x).2.2.1 1 u
  rw [rd_r, rd_r]
  by_cases e : u = v
  · simp [e]
  · simp [e]
    exact rp u hu
theorem rl_vote {nv km : Nat} {C : cS} {S : mS} (h : Rl nv km C S) {b v q : Nat} {x : Int64} (h1 : 1 ≤ b) (h2 : b ≤ km) (hv : v < nv) (hq : q < 8) (hf : rl_fix C.2 b q) (hx : x = C.2.2.2 b q) : Rl nv km (bc_l C 2 v (bh_wi (C.1.2.2.2 2 v) q (nI b))) (bh_l (bh_r S 2 (8 * v + q) (nI b)) 3 (8 * v + q) x) := by
  obtain ⟨ha, rp, rw_, rz, rb, ru, rs⟩ := h
  have hkm := ha.2.1.2.2.1
  refine ⟨ha, rp, fun u hu q' hq' => ?_, rz, rb, ru, rs⟩
  have e1 : (bc_l C 2 v (bh_wi (C.1.2.2.2 2 v) q (nI b))).1.2.2.2 2 u = if u = v then bh_wi (C.1.2.2.2 2 v) q (nI b) else C.1.2.2.2 2 u := by
    show (bh_l C.1 2 v _).2.2.2 2 u = _
    rw [rd_l]
    simp
  have e2 : (bh_l (bh_r S 2 (8 * v + q) (nI b)) 3 (8 * v + q) x).2.2.1 2 (8 * u + q') = if u = v ∧ q' = q then nI b else S.2.2.1 2 (8 * u + q') := by
    show (bh_r S 2 (8 * v + q) (nI b)).2.2.1 2 (8 * u + q') = _
    rw [rd_r]
    by_cases e : u = v ∧ q' = q
    · rw [if_pos e, if_pos ⟨rfl, by rw [e.1, e.2]⟩]
    · rw [if_neg e, if_neg (by omega)]
  have e3 : (bh_l (bh_r S 2 (8 * v + q) (nI b)) 3 (8 * v + q) x).2.2.2 3 (8 * u + q') = if u = v ∧ q' = q then x else S.2.2.2 3 (8 * u + q') := by
    rw [rd_l]
    by_cases e : u = v ∧ q' = q
    · rw [if_pos e, if_pos ⟨rfl, by rw [e.1, e.2]⟩]
    · rw [if_neg e, if_neg (by omega)]
      rfl
  rw [e1, e2, e3]
  have old := rw_ u hu q' hq'
  by_cases eu : u = v
  · subst eu
    rw [if_pos rfl, rb_at_wi _ hq hq' (by omega)]
    by_cases eq : q' = q
    · subst eq
      rw [if_pos rfl, if_pos ⟨rfl, rfl⟩, if_pos ⟨rfl, rfl⟩]
      exact ⟨rfl, Or.inr ⟨b, h1, h2, rfl, hx, hf⟩⟩
    · rw [if_neg eq, if_neg (fun e => eq e.2), if_neg (fun e => eq e.2)]
      exact old
  · rw [if_neg eu, if_neg (fun e => eu e.1), if_neg (fun e => eu e.1)]
    exact old
/-- a VOTE's answer -/
theorem rl_ans {nv km : Nat} {C : cS} {S : mS} (h : Rl nv km C S) {b v q : Nat} (h1 : 1 ≤ b) (h2 : b ≤ km) (hv : v < nv) (hq : q < 8) (hf : rl_fix C.2 b q) : Rl nv km (bc_q C 12 b q (C.2.2.1 12 b q ||| bh_bit v)) (bh_va2 S b v q) := by
  obtain ⟨⟨x1, x2, x3, x4, x5, x6, x7, x8⟩, y, z, ⟨⟨w11, w12, w13, w14, w15⟩, w2, w3, w4, g, w5, w6, w7⟩⟩ := rl_mf_self h h1 h2
  have hn := h.1.2.1.2.1
  have hv7 : rb_v (C.2.2.1 12 b q ||| bh_bit v) := rb_vbit (w2 q hq).1 (by omega)
  generalize hC' : bc_q C 12 b q (C.2.2.1 12 b q ||| bh_bit v) = C'
  have eq : ∀ f c q', C'.2.2.1 f c q' = if f = 12 ∧ c = b ∧ q' = q then C.2.2.1 12 b q ||| bh_bit v else C.2.2.1 f c q' := fun f c q' => by rw [← hC']; exact rd_q C 12 b q _ f c q'
  have ef : C'.2.1 = C.2.1 := by rw [← hC']; rfl
  have ew : C'.2.2.2 = C.2.2.2 := by rw [← hC']; rfl
  have hC1 : C'.1 = C.1 := by rw [← hC']; rfl
  -- the known places
  have ekn : ∀ i, i < 8 → bc_kn C' b i = if i = q then decide (C.2.1 3 b ≤ bh_bc (C.2.2.1 12 b q ||| bh_bit v)) else bc_kn C b i := by
    intro i hi
    unfold bc_kn
    rw [ef, eq]
    by_cases e : i = q
    · subst e
      rw [if_pos rfl, if_pos ⟨rfl, rfl, rfl⟩]
    · rw [if_neg e, if_neg (fun w => e w.2.2)]
  have e13 : (bh_va2 S b v q).2.2.1 13 b = bc_kp C' b := by
    unfold bh_va2
    rw [(y q hq).2.1, x4, rb_many hv7]
    by_cases hc : bh_bc (C.2.2.1 12 b q ||| bh_bit v) < C.2.1 3 b
    · rw [if_pos hc]
      show S.2.2.1 13 b = _
      rw [z]
      refine rb_ext (rl_kp_p C b) (rl_kp_p C' b) (fun i hi => ?_)
      rw [rl_kp_h C b hi, rl_kp_h C' b hi, ekn i hi]
      by_cases e : i = q
      · subst e
        rw [if_pos rfl]
        unfold bc_kn
        rw [decide_eq_false (Int32.not_le.mpr hc)]
        exact decide_eq_false (fun w => absurd (Int32.le_trans w (rb_bcm (w2 i hi).1 (by omega))) (Int32.not_le.mpr hc))
      · rw [if_neg e]
    · rw [if_neg hc]
      have : (bh_r (bh_va1 S b v q) 13 b (S.2.2.1 13 b ||| bh_bit q)).2.2.1 13 b = S.2.2.1 13 b ||| bh_bit q := by rw [rd_r]; simp
      rw [this, z]
      refine rb_ext (rb_pbit (rl_kp_p C b) hq) (rl_kp_p C' b) (fun i hi => ?_)
      rw [rb_h_or (rl_kp_p C b) hq hi, rl_kp_h C b hi, rl_kp_h C' b hi, ekn i hi]
      by_cases e : i = q
      · subst e
        rw [if_pos rfl, decide_eq_true (Int32.not_lt.mp hc)]
        simp
      · rw [if_neg e]
        rw [decide_eq_false (fun w => e w.symm), Bool.or_false]
  have er : ∀ r i, r ≠ 13 → (bh_va2 S b v q).2.2.1 r i = if r = 15 ∧ i = 8 * b + q then S.2.2.1 15 (8 * b + q) ||| bh_bit v else S.2.2.1 r i := by
    intro r i hr
    have e1 : (bh_va1 S b v q).2.2.1 r i = if r = 15 ∧ i = 8 * b + q then S.2.2.1 15 (8 * b + q) ||| bh_bit v else S.2.2.1 r i := rd_r S 15 _ _ r i
    unfold bh_va2
    split
    · exact e1
    · rw [rd_r, if_neg (fun w => hr w.1)]
      exact e1
  have er13 : ∀ c, c ≠ b → (bh_va2 S b v q).2.2.1 13 c = S.2.2.1 13 c := by
    intro c hc
    unfold bh_va2
    split
    · rfl
    · rw [rd_r, if_neg (fun w => hc w.2)]
      rfl
  have el : (bh_va2 S b v q).2.2.2 = S.2.2.2 := by unfold bh_va2; split <;> rfl
  have hS1 : (bh_va2 S b v q).1 = S.1 ∧ (bh_va2 S b v q).2.1 = S.2.1 := by unfold bh_va2; split <;> exact ⟨rfl, rfl⟩
  refine rl_one b h hC1 ⟨fun i q' j1 j2 hq' hf => ⟨?_, by rw [ew]⟩, fun i j1 j2 => by rw [ef]⟩ hS1 (fun r hr => ?_) (fun r hr => by rw [el]) (fun r c hc hr => ?_) (fun r c q' hc hq' hr => ?_) (fun c q' hc hq' => by rw [el]) (fun f c hc => by rw [ef]) (fun f c hc => ?_) (fun c hc => by rw [ew]) h1 h2 ?_
  · unfold rl_fix at hf ⊢
    rw [ef]
    exact hf
  · funext i
    rw [er r i (by omega), if_neg (by omega)]
  · by_cases h13 : r = 13
    · subst h13
      exact er13 c hc
    · rw [er r c h13, if_neg (by omega)]
  · rw [er r _ (by omega), if_neg (by omega)]
  · funext i
    rw [eq, if_neg (fun w => hc w.2.1)]
  · unfold rl_b rl_bi
    rw [e13, ef, er 5 b (by omega), er 6 b (by omega), er 7 b (by omega), er 8 b (by omega), er 9 b (by omega), er 10 b (by omega), er 11 b (by omega), er 12 b (by omega)]
    rw [if_neg (by omega), if_neg (by omega), if_neg (by omega), if_neg (by omega), if_neg (by omega), if_neg (by omega), if_neg (by omega), if_neg (by omega)]
    refine ⟨⟨x1, x2, x3, x4, x5, x6, x7, x8⟩, fun q' hq' => ?_, rfl, ⟨w11, w12, w13, w14, w15⟩, fun q' hq' => ?_, w3, ⟨w4.1, w4.2.1, fun e => absurd hf.1 e⟩, g, w5, w6, w7.trans (rl_mf_cg _ _ (fun i _ _ => by rw [ef])).symm⟩
    · obtain ⟨y1, y2, y3, y4⟩ := y q' hq'
      rw [er 14 _ (by omega), er 15 _ (by omega), er 16 _ (by omega), el, ew, eq, eq, eq, if_neg (by omega), if_neg (by omega : ¬ (16 = 15 ∧ _)), if_neg (by omega), if_neg (by omega : ¬ (13 = 12 ∧ _))]
      by_cases e : q' = q
      · subst e
        rw [if_pos ⟨rfl, rfl⟩, if_pos ⟨rfl, rfl, rfl⟩, y2]
        exact ⟨y1, rfl, y3, y4⟩
      · rw [if_neg (by omega), if_neg (fun w => e w.2.2)]
        exact ⟨y1, y2, y3, y4⟩
    · obtain ⟨y1, y2, y3, y4, y5⟩ := w2 q' hq'
      rw [eq, eq, eq, if_neg (by omega : ¬ (13 = 12 ∧ _)), if_neg (by omega : ¬ (10 = 12 ∧ _))]
      by_cases e : q' = q
      · subst e
        rw [if_pos ⟨rfl, rfl, rfl⟩]
        exact ⟨hv7, y2, y3, fun w => absurd hf.2 (by rw [w]; decide), y5⟩
      · rw [if_neg (fun w => e w.2.2)]
        exact ⟨y1, y2, y3, y4, y5⟩
/-- what was found in a READ's answer -/
theorem rl_tf {nv km : Nat} {C : cS} {S : mS} {b : Nat} {x : Int64} (h : Rl nv km C S) (h1 : 1 ≤ b) (h2 : b ≤ km) (h6 : C.2.1 6 b = nI 1) (hv : ∀ q, q < 8 → rl_v km C.2 q (bh_at x q) (S.2.2.1 29 q) (S.2.2.2 30 q)) (q : Nat) (hq : q ≤ 8) : Rl nv km (bc_tfL C km b x q) (bh_raL S b q) ∧ (bc_tfL C km b x q).2.1 6 b = nI 1 ∧ (∀ i, i < 8 → rl_v km (bc_tfL C km b x q).2 i (bh_at x i) ((bh_raL S b q).2.2.1 29 i) ((bh_raL S b q).2.2.2 30 i)) := by
  have hkm := h.1.2.1.2.2.1
  induction q with
  | zero => exact ⟨h, h6, hv⟩
  | succ q ih =>
    obtain ⟨i1, i2, i3⟩ := ih (by omega)
    have hq8 : q < 8 := by omega
    obtain ⟨e1, e2⟩ := i3 q hq8
    have xb := rl_mf_self i1 h1 h2
    have e14 := (xb.2.1 q hq8).1
    have hge := (xb.2.2.2.2.1 q hq8).2.2.2.2
    unfold bc_tfL bh_raL
    rw [e14, e1]
    rcases e2 with ⟨e3, -⟩ | ⟨j, j1, j2, j3, j4, j5⟩
    · rw [show bh_ixb (bh_at x q) km = none by rw [e3]; exact if_neg (by rw [nI_toInt (by omega)]; omega)]
      rw [if_neg (by rw [e3]; exact Int32.not_lt.mpr hge)]
      exact ⟨i1, i2, i3⟩
    · rw [j3, bh_ixb_nI j1 j2 (by omega)]
      dsimp only
      by_cases hc : nI j ≤ (bc_tfL C km b x q).2.2.1 10 b q
      · rw [if_pos hc, if_neg (Int32.not_lt.mpr hc)]
        exact ⟨i1, i2, i3⟩
      · rw [if_neg hc, if_pos (Int32.not_le.mp hc)]
        have hjb : ¬ j = b := fun e => by rw [e] at j5; exact absurd j5.1 (by rw [i2]; decide)
        have r := rl_found (v := (bc_tfL C km b x q).2.2.2 j q) (j := j) i1 h1 h2 hq8 i2 (by omega)
        rw [j4]
        refine ⟨r, i2, fun i hi => ?_⟩
        have hle : rl_le km (bc_tfL C km b x q).2 (bc_w (bc_q (bc_f (bc_tfL C km b x q) 8 b ((bc_tfL C km b x q).2.1 8 b ||| bh_bit q)) 10 b q (nI j)) b q ((bc_tfL C km b x q).2.2.2 j q)).2 := by
          refine ⟨fun a p a1 a2 hp hf => ?_, fun a a1 a2 => rfl⟩
          have hab : ¬ a = b := fun e => by rw [e] at hf; exact absurd hf.1 (by rw [i2]; decide)
          refine ⟨⟨hf.1, ?_⟩, ?_⟩
          · show rb_h ((bc_f (bc_tfL C km b x q) 8 b _).2.1 8 a ||| _) p = true
            rw [rd_f, if_neg (fun w => hab w.2)]
            exact hf.2
          · rw [rd_w, if_neg (fun w => hab w.1)]
            rfl
        exact rl_v_mono hi hle (i3 i hi)
/-- the kinds of letters, one by one -/
theorem rl_k1 {nv km : Nat} {C : cS} {S : mS} {b g : Nat} (h : Rl nv km C S) (h1 : 1 ≤ b) (h2 : b ≤ km) (hg : C.2.1 4 b = nI g) (hg24 : g ≤ 24) : Rl nv km (bc_ne C nv b g) (if S.2.2.1 5 b = 0 then bh_bre S b g else S) := by
  have xb := rl_mf_self h h1 h2
  unfold bc_ne
  rw [xb.1.1]
  by_cases hc : C.2.1 6 b = 0
  · rw [if_pos hc, if_pos hc]
    have lo := xb.2.2.2.2.2.2.1.2.2 (by rw [hc]; decide)
    have h7 := xb.2.2.2.2.2.2.1.2.1 hc
    have hs : Rl nv km (bc_f C 6 b (nI 1)) (bh_r S 5 b (nI 1)) := rl_state h h1 h2 ⟨1, by omega, rfl⟩ (fun e => absurd e (by rw [hc]; decide)) (fun e => absurd e (by decide)) (fun _ => lo)
    have hr := (rl_sr (rc := C.2.1 5 b) hs h1 h2 hg hg24 (by show C.2.1 5 b = C.2.1 5 b &&& (C.2.1 7 b ^^^ -1); rw [h7, rb_n0 (rb_vp (rl_rdr h h1 h2))])).1
    have h22 := bc_seL_2 (bc_f C 6 b (nI 1)) (C.2.1 5 b) (nI 2) b (-1) nv
    exact rl_go1 hr h1 h2 (by rw [h22]; exact hg) hg24 (by rw [h22, rd_f]; simp)
  · rw [if_neg hc, if_neg hc]
    exact h
theorem rl_k2 {nv km : Nat} {C : cS} {S : mS} {b v : Nat} (h : Rl nv km C S) (h1 : 1 ≤ b) (h2 : b ≤ km) (hv : v < nv) : Rl nv km (bc_re C b v) (bh_cre S b v) := by
  have hp := h.2.1 v hv
  unfold bc_re bh_cre
  rw [hp]
  by_cases hc : C.1.2.2.1 1 v ≤ nI b
  · rw [if_pos hc, if_pos hc]
    refine rl_send (rl_prom h v (nI b)) ⟨3, b, rfl, rfl, by omega, ⟨h1, h2⟩, fun _ => ⟨v, hv, rfl, fun z => absurd z (by omega)⟩, fun z => absurd z (by omega), fun _ q hq => h.2.2.1 v hv q hq, fun z => absurd rfl z⟩
  · rw [if_neg hc, if_neg hc]
    exact h
theorem rl_k3 {nv km : Nat} {C : cS} {S : mS} {b v g : Nat} {x : Int64} (h : Rl nv km C S) (h1 : 1 ≤ b) (h2 : b ≤ km) (hg : C.2.1 4 b = nI g) (hg24 : g ≤ 24) (hv : v < nv) (hx : ∀ q, q < 8 → rl_v km C.2 q (bh_at x q) (S.2.2.1 29 q) (S.2.2.2 30 q)) : Rl nv km (bc_ra C nv km b v g x) (bh_cra S b v g) := by
  have xb := rl_mf_self h h1 h2
  have hn := h.1.2.1.2.1
  have e1 : (C.2.1 6 b = nI 1 ∧ C.2.1 7 b &&& bh_bit v = 0) ↔ (S.2.2.1 5 b = nI 1 ∧ ¬ (S.2.2.1 10 b >>> (nI v &&& 31)) &&& nI 1 = nI 1) := by
    rw [xb.1.1, xb.1.2.2.2.2.2.1]
    have e := rb_h_shr (rb_vp xb.2.2.2.1.2.2.1) (show v < 8 by omega)
    constructor
    · rintro ⟨a1, a2⟩
      refine ⟨a1, fun w => ?_⟩
      rw [decide_eq_true w] at e
      unfold rb_h at e
      rw [decide_eq_true a2] at e
      cases e
    · rintro ⟨a1, a2⟩
      refine ⟨a1, ?_⟩
      rw [decide_eq_false a2] at e
      unfold rb_h at e
      by_cases w : C.2.1 7 b &&& bh_bit v = 0
      · exact w
      · rw [decide_eq_false w] at e
        cases e
  unfold bc_ra bh_cra
  by_cases hc : C.2.1 6 b = nI 1 ∧ C.2.1 7 b &&& bh_bit v = 0
  · rw [if_pos hc, if_pos (e1.mp hc)]
    have hr : Rl nv km (bc_f C 7 b (C.2.1 7 b ||| bh_bit v)) (bh_r S 10 b (S.2.2.1 10 b ||| bh_bit v)) := by
      rw [xb.1.2.2.2.2.2.1]
      exact rl_read h h1 h2 (rb_vbit xb.2.2.2.1.2.2.1 (by omega)) (by rw [hc.1]; decide)
    obtain ⟨t1, t2, -⟩ := rl_tf hr h1 h2 hc.1 hx 8 (by omega)
    rw [bh_ra_def] at t1
    exact rl_go1 t1 h1 h2 (by rw [show (bc_tfL (bc_f C 7 b (C.2.1 7 b ||| bh_bit v)) km b x 8).2.1 4 = C.2.1 4 from bc_ra1_4 C km b v x]; exact hg) hg24 t2
  · rw [if_neg hc, if_neg (fun w => hc (e1.mpr w))]
    exact h
theorem rl_k4 {nv km : Nat} {C : cS} {S : mS} {b v q : Nat} {x : Int64} (h : Rl nv km C S) (h1 : 1 ≤ b) (h2 : b ≤ km) (hv : v < nv) (hq : q < 8) (hm : rb_h (C.2.1 1 b) v = true) (hf : rl_fix C.2 b q) (hx : x = C.2.2.2 b q) : Rl nv km (bc_vo C b v q) (bh_cvo S b v q x) := by
  have hn := h.1.2.1.2.1
  have xb := rl_mf_self h h1 h2
  unfold bc_vo bh_cvo
  rw [h.2.1 v hv]
  by_cases hc : C.1.2.2.1 1 v ≤ nI b
  · rw [if_pos hc, if_pos hc]
    have r1 := rl_vote (x := x) (rl_prom h v (nI b)) h1 h2 hv hq hf hx
    have hw := xb.2.2.2.2.1 q hq
    have r2 := rl_ever (q := q) (x := C.2.2.1 13 b q ||| bh_bit v) r1 h1 h2 hq (rb_vbit hw.2.1 (by omega)) (rb_sub hw.2.1 (rl_mem h h1 h2) hw.2.2.1 (by omega) hm)
    rw [(xb.2.1 q hq).2.2.1]
    refine rl_send r2 ?_
    exact rl_z0 nv km _ (w := 5) (by omega) (by omega) ⟨h1, h2⟩ (fun _ => ⟨v, hv, rfl, fun _ => hm⟩) (fun _ => ⟨q, hq, rfl, hf, fun z => absurd z (by omega)⟩)
  · rw [if_neg hc, if_neg hc]
    exact h
theorem rl_k5 {nv km : Nat} {C : cS} {S : mS} {b v q g : Nat} (h : Rl nv km C S) (h1 : 1 ≤ b) (h2 : b ≤ km) (hv : v < nv) (hq : q < 8) (hf : rl_fix C.2 b q) : Rl nv km (bc_va C nv b v q g) (bh_cva S b v q) := by
  have xb := rl_mf_self h h1 h2
  unfold bc_va bh_cva
  rw [if_pos hf.1, if_pos (by rw [xb.1.1]; exact hf.1)]
  have r := rl_go2 (g := g) (rl_ans h h1 h2 hv hq hf) h1 h2 (fun e => absurd hf.1 (by rw [show C.2.1 6 b = nI 1 from e]; decide))
  rw [show (bh_va2 S b v q).2.2.1 5 b = S.2.2.1 5 b by unfold bh_va2; split <;> rfl] at r
  exact r
theorem rl_k6 {nv km : Nat} {C : cS} {S : mS} {b : Nat} (h : Rl nv km C S) (h1 : 1 ≤ b) (h2 : b ≤ km) : Rl nv km (bc_co C b) (if S.2.1 19 = S.2.2.1 9 b ∨ S.2.1 19 = nI b then bh_put (bh_i S 19 (nI b)) (nI 7) (nI b) (-1) (-1) 0 bh_z0 bh_z1 else S) := by
  have xb := rl_mf_self h h1 h2
  unfold bc_co
  rw [h.1.2.2.1.1, xb.1.2.2.2.2.1]
  by_cases hc : C.1.2.1 6 = C.2.1 4 b ∨ C.1.2.1 6 = nI b
  · rw [if_pos hc, if_pos hc]
    have r : Rl nv km (bc_i C 6 (nI b)) (bh_i S 19 (nI b)) := by
      obtain ⟨⟨a1, a2, ⟨a3, a4⟩, a5⟩, hr⟩ := h
      exact ⟨⟨a1, a2, ⟨rfl, a4⟩, b, h2, rfl⟩, hr⟩
    exact rl_send r (rl_z0 nv km _ (w := 7) (by omega) (by omega) ⟨h1, h2⟩ (fun z => absurd z (by omega)) (fun z => absurd z (by omega)))
  · rw [if_neg hc, if_neg hc]
    exact h
theorem rl_k7 {nv km : Nat} {C : cS} {S : mS} {b : Nat} (h : Rl nv km C S) (h1 : 1 ≤ b) (h2 : b ≤ km) : Rl nv km (bc_ac C b) (if S.2.2.1 5 b = nI 3 then bh_r S 5 b (nI 4) else S) := by
  have xb := rl_mf_self h h1 h2
  unfold bc_ac
  rw [xb.1.1]
  by_cases hc : C.2.1 6 b = nI 3
  · rw [if_pos hc, if_pos hc]
    exact rl_state h h1 h2 ⟨4, by omega, rfl⟩ (fun _ => by decide) (fun e => absurd e (by decide)) (fun e => absurd (by decide) e)
  · rw [if_neg hc, if_neg hc]
    exact h
theorem rl_got {nv km : Nat} {C : cS} {S : mS} (h : Rl nv km C S) (k j : Nat) : Rl nv km C (bh_got S k j) := by
  induction j with
  | zero => exact h
  | succ j ih => exact ih
theorem rl_got29 (S : mS) (k j : Nat) {q : Nat} (hq : q < j) : (bh_got S k j).2.2.1 29 q = S.2.2.1 25 (8 * k + q) ∧ (bh_got S k j).2.2.2 30 q = S.2.2.2 27 (8 * k + q) := by
  induction j with
  | zero => omega
  | succ j ih =>
    unfold bh_got
    rw [rd_lr, rd_r, rd_l]
    by_cases e : q = j
    · subst e
      simp
    · rw [if_neg (fun w => e w.2), if_neg (fun w => e w.2)]
      exact ih (by omega)
theorem rl_off {nv km : Nat} {C : cS} {S : mS} {k : Nat} (h : Rl nv km C S) (hk : k < C.1.1 15) : Rl nv km (bc_dp C k) (bh_off S k) := rl_drop (rl_got h k 8) hk
theorem rl_off29 (S : mS) (k : Nat) {q : Nat} (hq : q < 8) : (bh_off S k).2.2.1 29 q = S.2.2.1 25 (8 * k + q) ∧ (bh_off S k).2.2.2 30 q = S.2.2.2 27 (8 * k + q) := by
  have e := (bh_kp_take (bh_got S k 8) k).2
  unfold bh_off
  rw [(e 29 (by omega)).1, (e 30 (by omega)).2]
  exact rl_got29 S k 8 hq
theorem rl_dlv {nv km : Nat} {C : cS} {S : mS} {k : Nat} (h : Rl nv km C S) (hk : k < C.1.1 15) : Rl nv km (bc_dlv C nv km k) (bh_dlv S k) := by
  obtain ⟨⟨l1, l2, l3, l4⟩, w, b, c1, c2, cw, ⟨cb1, cb2⟩, c5, c6, c7, c8⟩ := h.2.2.2.2.2.2 k hk
  have hkm := h.1.2.1.2.2.1
  have hn := h.1.2.1.2.1
  have xb := rl_mf_self h cb1 cb2
  obtain ⟨g, g1, g2, g3⟩ := xb.2.2.2.2.2.2.2
  have ho := rl_off h hk
  unfold bc_dlv bh_dlv
  rw [l1, l2, l3, l4, c1, c2, nI_clamp (by omega), nI_clamp (by omega), xb.1.2.2.2.2.1, g2, nI_clamp (by omega)]
  unfold bc_do bh_do
  rcases (show w = 1 ∨ w = 2 ∨ w = 3 ∨ w = 4 ∨ w = 5 ∨ w = 6 ∨ w = 7 by omega) with rfl | rfl | rfl | rfl | rfl | rfl | rfl
  · exact rl_k1 ho cb1 cb2 g2 (by omega)
  · obtain ⟨v, v1, v2, -⟩ := c5 (by omega)
    rw [v2, nI_clamp (by omega)]
    exact rl_k2 ho cb1 cb2 v1
  · obtain ⟨v, v1, v2, -⟩ := c5 (by omega)
    rw [v2, nI_clamp (by omega)]
    exact rl_k3 ho cb1 cb2 g2 (by omega) v1 (fun q hq => by rw [(rl_off29 S k hq).1, (rl_off29 S k hq).2]; exact c7 rfl q hq)
  · obtain ⟨v, v1, v2, v3⟩ := c5 (by omega)
    obtain ⟨q, q1, q2, q3, q4⟩ := c6 (by omega)
    rw [v2, q2, nI_clamp (by omega), nI_clamp (by omega)]
    exact rl_k4 ho cb1 cb2 v1 q1 (v3 (by omega)) q3 (q4 rfl)
  · obtain ⟨v, v1, v2, v3⟩ := c5 (by omega)
    obtain ⟨q, q1, q2, q3, q4⟩ := c6 (by omega)
    rw [v2, q2, nI_clamp (by omega), nI_clamp (by omega)]
    exact rl_k5 ho cb1 cb2 v1 q1 q3
  · exact rl_k6 ho cb1 cb2
  · exact rl_k7 ho cb1 cb2
-- what the walks need of the letters
theorem rl_lokC {nv km : Nat} {C : cS} {S : mS} {k : Nat} (h : Rl nv km C S) (hk : k < C.1.1 15) : bc_lok C nv km k := by
  obtain ⟨⟨l1, l2, l3, l4⟩, w, b, c1, c2, cw, ⟨cb1, cb2⟩, c5, c6, c7, c8⟩ := h.2.2.2.2.2.2 k hk
  have hkm := h.1.2.1.2.2.1
  have hn := h.1.2.1.2.1
  obtain ⟨g, g1, g2, g3⟩ := (rl_mf_self h cb1 cb2).2.2.2.2.2.2.2
  unfold bc_lok bc_let
  rw [c1, c2, nI_clamp (by omega), nI_clamp (by omega), g2, nI_clamp (by omega)]
  refine ⟨rfl, rfl, rfl, cw, ⟨cb1, cb2⟩, by omega, fun z => ?_, fun z => ?_⟩
  · obtain ⟨v, v1, v2, -⟩ := c5 z
    rw [v2, nI_clamp (by omega)]
    exact ⟨rfl, v1⟩
  · obtain ⟨q, q1, q2, -⟩ := c6 z
    rw [q2, nI_clamp (by omega)]
    exact ⟨rfl, q1⟩
theorem rl_lokM {nv km : Nat} {C : cS} {S : mS} {k : Nat} (h : Rl nv km C S) (hk : k < C.1.1 15) : bh_lok S k := by
  obtain ⟨⟨l1, l2, l3, l4⟩, w, b, c1, c2, cw, ⟨cb1, cb2⟩, c5, c6, c7, c8⟩ := h.2.2.2.2.2.2 k hk
  have hkm := h.1.2.1.2.2.1
  have hn := h.1.2.1.2.1
  have xb := rl_mf_self h cb1 cb2
  obtain ⟨g, g1, g2, g3⟩ := xb.2.2.2.2.2.2.2
  unfold bh_lok bh_let
  rw [l1, l2, l3, l4, c1, c2, nI_clamp (by omega), nI_clamp (by omega), xb.1.2.2.2.2.1, g2, nI_clamp (by omega)]
  refine ⟨rfl, rfl, rfl, cw, by omega, by omega, fun z => ?_, fun z => ?_⟩
  · obtain ⟨v, v1, v2, -⟩ := c5 z
    rw [v2, nI_clamp (by omega)]
    exact ⟨rfl, by omega⟩
  · obtain ⟨q, q1, q2, -⟩ := c6 z
    rw [q2, nI_clamp (by omega)]
    exact ⟨rfl, q1⟩
theorem rl_fs {nv km : Nat} {C : cS} {S : mS} {k : Nat} (h : Rl nv km C S) (hk : k < C.1.1 15) : bc_fs C k = !bh_cb S k := by
  obtain ⟨⟨l1, l2, l3, l4⟩, w, b, c1, c2, cw, ⟨cb1, cb2⟩, c5, c6, c7, c8⟩ := h.2.2.2.2.2.2 k hk
  have hn := h.1.2.1.2.1
  unfold bc_fs bh_cb
  rw [l1, l3, Bool.not_not]
  by_cases hc : C.1.2.2.1 10 k = nI 2 ∨ C.1.2.2.1 10 k = nI 4
  · rw [decide_eq_true hc, Bool.true_and, Bool.true_and]
    have hw : 2 ≤ w ∧ w ≤ 5 := by
      rw [c1] at hc
      rcases hc with hc | hc
      · have := (nI_eq (by omega) (by omega)).mp hc; omega
      · have := (nI_eq (by omega) (by omega)).mp hc; omega
    obtain ⟨v, v1, v2, -⟩ := c5 hw
    rw [v2, nI_clamp (by omega)]
    have e := h.2.2.2.1.2 v v1
    unfold rb_h bh_bit at e
    by_cases hz : S.2.2.1 4 v = 0
    · have e2 := e.mp hz
      rw [decide_eq_true hz]
      simpa using e2
    · rw [decide_eq_false hz]
      cases hd : decide (C.1.2.1 3 &&& nI 1 <<< (nI v &&& 31) = 0) with
      | false => rfl
      | true => exact absurd (e.mpr (by rw [hd]; rfl)) hz
  · rw [decide_eq_false hc]
    rfl
