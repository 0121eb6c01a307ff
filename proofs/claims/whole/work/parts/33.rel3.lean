/-! what the two sides do alike -/
theorem rl_z0 (nv km : Nat) (B : cB) {w b : Nat} {vv pp : Int32} {x : Int64} (hw : 1 ≤ w ∧ w ≤ 7) (hw3 : w ≠ 3) (hb : 1 ≤ b ∧ b ≤ km) (h5 : 2 ≤ w ∧ w ≤ 5 → ∃ v, v < nv ∧ vv = nI v ∧ (4 ≤ w → rb_h (B.1 1 b) v = true)) (h6 : 4 ≤ w ∧ w ≤ 5 → ∃ q, q < 8 ∧ pp = nI q ∧ rl_fix B b q ∧ (w = 4 → x = B.2.2 b q)) : rl_lc nv km B (nI w) (nI b) vv pp 0 x bh_z0 bh_z1 := ⟨w, b, rfl, rfl, hw, hb, h5, h6, fun e => absurd e hw3, fun _ => ⟨rfl, fun _ _ => rfl⟩⟩
theorem rl_mem {nv km : Nat} {C : cS} {S : mS} (h : Rl nv km C S) {b : Nat} (h1 : 1 ≤ b) (h2 : b ≤ km) : rb_v (C.2.1 1 b) := by
  obtain ⟨m, m1, m2⟩ := (rl_mf_self h h1 h2).2.2.2.1.1
  exact ⟨m, Nat.lt_of_lt_of_le m1 (show 2 ^ nv ≤ 2 ^ 7 from Nat.pow_le_pow_right (by omega) h.1.2.1.2.1), m2⟩
theorem rl_rdr {nv km : Nat} {C : cS} {S : mS} (h : Rl nv km C S) {b : Nat} (h1 : 1 ≤ b) (h2 : b ≤ km) : rb_v (C.2.1 5 b) := by
  obtain ⟨m, m1, m2⟩ := (rl_mf_self h h1 h2).2.2.2.1.2.1
  exact ⟨m, Nat.lt_of_lt_of_le m1 (show 2 ^ nv ≤ 2 ^ 7 from Nat.pow_le_pow_right (by omega) h.1.2.1.2.1), m2⟩
theorem rl_hb {x : Int32} {v : Nat} (h : ¬ x &&& bh_bit v = 0) : rb_h x v = true := by
  unfold rb_h
  rw [decide_eq_false h]
  rfl
/-- VOTEs to all that haven't answered -/
theorem rl_svL {nv km : Nat} {C : cS} {S : mS} {b q : Nat} {rc : Int32} (h : Rl nv km C S) (h1 : 1 ≤ b) (h2 : b ≤ km) (hq : q < 8) (hf : rl_fix C.2 b q) (hrc : rc = C.2.1 1 b &&& (C.2.2.1 12 b q ^^^ -1)) (v : Nat) (hv : v ≤ nv) : Rl nv km (bc_seL C rc (nI 4) b (nI q) v) (bh_svL S b q v).2 ∧ (bh_svL S b q v).1 = rb_n rc v := by
  obtain ⟨⟨x1, x2, x3, x4, x5, x6, x7, x8⟩, y, z, ⟨⟨w11, w12, w13, w14, w15⟩, w2, w3, w4, g, w5, w6, w7⟩⟩ := rl_mf_self h h1 h2
  have hn := h.1.2.1.2.1
  induction v with
  | zero => exact ⟨h, rfl⟩
  | succ v ih =>
    obtain ⟨i1, i2⟩ := ih (by omega)
    have ec : bh_svC S b q v = rc &&& bh_bit v := by
      unfold bh_svC
      rw [x2, (y q hq).2.1, hrc]
    unfold bc_seL bh_svL rb_n
    rw [ec]
    by_cases hc : rc &&& bh_bit v = 0
    · rw [if_pos hc, if_pos hc, if_pos hc]
      exact ⟨i1, i2⟩
    · rw [if_neg hc, if_neg hc, if_neg hc]
      refine ⟨rl_send i1 ?_, by rw [← i2]⟩
      rw [bc_seL_2]
      refine rl_z0 nv km C.2 (w := 4) (by omega) (by omega) ⟨h1, h2⟩ (fun _ => ⟨v, by omega, rfl, fun _ => ?_⟩) (fun _ => ⟨q, hq, rfl, hf, fun _ => (y q hq).2.2.2⟩)
      have hb := rl_hb hc
      rw [hrc, rb_h_not (rb_vp (rl_mem h h1 h2)) (rb_vp (w2 q hq).1) (by omega)] at hb
      cases hh : rb_h (C.2.1 1 b) v with
      | true => rfl
      | false => rw [hh] at hb; cases hb
theorem rl_bcn {nv : Nat} (hn : nv ≤ 7) {x : Int32} (h : ∃ m, m < 2 ^ nv ∧ x = nI m) : nI (rb_n x nv) = bh_bc x := by
  obtain ⟨m, m1, rfl⟩ := h
  exact rb_n_bc0 nv (by omega) m m1
theorem rl_lt2 {nv : Nat} (hn : nv ≤ 7) {x y : Int32} (h : ∃ m, m < 2 ^ nv ∧ x = nI m) (g : rb_v y) : ∃ m, m < 2 ^ nv ∧ x &&& (y ^^^ -1) = nI m := by
  obtain ⟨m, m1, rfl⟩ := h
  obtain ⟨k, k1, rfl⟩ := g
  have : 2 ^ nv ≤ 2 ^ 7 := Nat.pow_le_pow_right (by omega) hn
  exact ⟨m &&& (255 ^^^ k), rb_not_lt m1, rb_not (by omega) (by omega)⟩
theorem rl_sv {nv km : Nat} {C : cS} {S : mS} {b q : Nat} {rc : Int32} (h : Rl nv km C S) (h1 : 1 ≤ b) (h2 : b ≤ km) (hq : q < 8) (hf : rl_fix C.2 b q) (hrc : rc = C.2.1 1 b &&& (C.2.2.1 12 b q ^^^ -1)) : Rl nv km (bc_seL C rc (nI 4) b (nI q) nv) (bh_sv S b q).2 ∧ nI (bh_sv S b q).1 = bh_bc rc := by
  have hn := h.1.2.1.2.1
  obtain ⟨r1, r2⟩ := rl_svL h h1 h2 hq hf hrc nv (Nat.le_refl _)
  unfold bh_sv
  rw [h.1.1.1]
  refine ⟨r1, ?_⟩
  rw [r2]
  have b2 := rl_mf_self h h1 h2
  exact rl_bcn hn (by rw [hrc]; exact rl_lt2 hn b2.2.2.2.1.1 (b2.2.2.2.2.1 q hq).1)
theorem rl_ask {nv km : Nat} {C : cS} {S : mS} (h : Rl nv km C S) (f d : Nat) (hf : 1 ≤ f) (hd : f + d ≤ km + 1) : bh_askL S f d = rl_mf C.2 f d := by
  induction d with
  | zero => rfl
  | succ d ih =>
    show bh_askL S f d ||| S.2.2.1 6 (f + d) = rl_mf C.2 f d ||| C.2.1 1 (f + d)
    rw [ih (by omega), (rl_mf_self h (show 1 ≤ f + d by omega) (by omega)).1.2.1]
theorem rl_asked {nv km : Nat} {C : cS} {S : mS} (h : Rl nv km C S) {b g : Nat} (h1 : 1 ≤ b) (h2 : b ≤ km) (hg : C.2.1 4 b = nI g) (hg24 : g ≤ 24) : bh_ask S b g = C.2.1 5 b := by
  obtain ⟨g', g1, g2, g3⟩ := (rl_mf_self h h1 h2).2.2.2.2.2.2.2
  have e : g = g' := (nI_eq (by omega) (by have := h.1.2.1.2.2.1; omega)).mp (hg.symm.trans g2)
  subst e
  rw [g3]
  exact rl_ask h _ _ (bc_fr_pos g) (by unfold bh_fr; split <;> omega)
/-- READs to all that haven't answered -/
theorem rl_srL {nv km : Nat} {C : cS} {S : mS} {b g : Nat} {rc : Int32} (h : Rl nv km C S) (h1 : 1 ≤ b) (h2 : b ≤ km) (hg : C.2.1 4 b = nI g) (hg24 : g ≤ 24) (hrc : rc = C.2.1 5 b &&& (C.2.1 7 b ^^^ -1)) (v : Nat) (hv : v ≤ nv) : Rl nv km (bc_seL C rc (nI 2) b (-1) v) (bh_srL S b g v).2 ∧ (bh_srL S b g v).1 = rb_n rc v := by
  have x6 := (rl_mf_self h h1 h2).1.2.2.2.2.2.1
  induction v with
  | zero => exact ⟨h, rfl⟩
  | succ v ih =>
    obtain ⟨i1, i2⟩ := ih (by omega)
    have ec : bh_srC S b g v = rc &&& bh_bit v := by
      unfold bh_srC
      rw [x6, rl_asked h h1 h2 hg hg24, hrc]
    unfold bc_seL bh_srL rb_n
    rw [ec]
    by_cases hc : rc &&& bh_bit v = 0
    · rw [if_pos hc, if_pos hc, if_pos hc]
      exact ⟨i1, i2⟩
    · rw [if_neg hc, if_neg hc, if_neg hc]
      refine ⟨rl_send i1 ?_, by rw [← i2]⟩
      rw [bc_seL_2]
      exact rl_z0 nv km C.2 (w := 2) (by omega) (by omega) ⟨h1, h2⟩ (fun _ => ⟨v, by omega, rfl, fun z => absurd z (by omega)⟩) (fun z => absurd z (by omega))
theorem rl_sr {nv km : Nat} {C : cS} {S : mS} {b g : Nat} {rc : Int32} (h : Rl nv km C S) (h1 : 1 ≤ b) (h2 : b ≤ km) (hg : C.2.1 4 b = nI g) (hg24 : g ≤ 24) (hrc : rc = C.2.1 5 b &&& (C.2.1 7 b ^^^ -1)) : Rl nv km (bc_seL C rc (nI 2) b (-1) nv) (bh_sr S b g).2 ∧ nI (bh_sr S b g).1 = bh_bc rc := by
  have hn := h.1.2.1.2.1
  obtain ⟨r1, r2⟩ := rl_srL h h1 h2 hg hg24 hrc nv (Nat.le_refl _)
  unfold bh_sr
  rw [h.1.1.1]
  refine ⟨r1, ?_⟩
  rw [r2]
  have b2 := rl_mf_self h h1 h2
  exact rl_bcn hn (by rw [hrc]; exact rl_lt2 hn b2.2.2.2.1.2.1 b2.2.2.2.1.2.2.1)
/-- the places that the leader knows -/
theorem rl_kpp (C : cS) (b : Nat) (q : Nat) (hq : q ≤ 8) : rb_p (bc_kpL C b q) ∧ ∀ i, i < 8 → rb_h (bc_kpL C b q) i = (decide (i < q) && bc_kn C b i) := by
  induction q with
  | zero => exact ⟨rb_p0, fun i _ => by rw [show bc_kpL C b 0 = nI 0 from rfl, rb_h_zero]; simp⟩
  | succ q ih =>
    obtain ⟨i1, i2⟩ := ih (by omega)
    unfold bc_kpL
    by_cases hk : bc_kn C b q = true
    · rw [if_pos hk]
      refine ⟨rb_pbit i1 (by omega), fun i hi => ?_⟩
      rw [rb_h_or i1 (by omega) hi, i2 i hi]
      by_cases e : q = i
      · subst e
        simp [hk]
      · by_cases e2 : i < q
        · simp [e, e2, show i < q + 1 by omega]
        · simp [e, e2, show ¬ i < q + 1 by omega]
    · rw [if_neg hk]
      refine ⟨i1, fun i hi => ?_⟩
      rw [i2 i hi]
      by_cases e : i = q
      · subst e
        simp [hk]
      · by_cases e2 : i < q
        · simp [e2, show i < q + 1 by omega]
        · simp [e2, show ¬ i < q + 1 by omega]
theorem rl_kp_p (C : cS) (b : Nat) : rb_p (bc_kp C b) := (rl_kpp C b 8 (by omega)).1
theorem rl_kp_h (C : cS) (b : Nat) {i : Nat} (hi : i < 8) : rb_h (bc_kp C b) i = bc_kn C b i := by
  show rb_h (bc_kpL C b 8) i = _
  rw [(rl_kpp C b 8 (by omega)).2 i hi]
  simp [hi]
theorem rl_agC {nv km : Nat} {C : cS} {S : mS} (h : Rl nv km C S) {b q : Nat} (h1 : 1 ≤ b) (h2 : b ≤ km) (hq : q < 8) : (bh_agC S b q = nI 1) ↔ (bc_hw C b q = true ∧ bc_kn C b q = false) := by
  obtain ⟨⟨x1, x2, x3, x4, x5, x6, x7, x8⟩, y, z, ⟨⟨w11, w12, w13, w14, w15⟩, w2, w3, w4, g, w5, w6, w7⟩⟩ := rl_mf_self h h1 h2
  have e : decide (bh_agC S b q = nI 1) = (bc_hw C b q && !bc_kn C b q) := by
    obtain ⟨m, m1, m2⟩ := rb_por w14 w15
    obtain ⟨k, k1, k2⟩ := rl_kp_p C b
    have hpp : rb_p ((C.2.1 8 b ||| C.2.1 9 b) &&& (bc_kp C b ^^^ -1)) := ⟨m &&& (255 ^^^ k), rb_not_lt m1, by rw [m2, k2]; exact rb_not m1 k1⟩
    unfold bh_agC
    rw [x7, x8, z, rb_h_shr hpp hq, rb_h_not (rb_por w14 w15) (rl_kp_p C b) hq, rl_kp_h C b hq]
    rfl
  constructor
  · intro hc
    rw [decide_eq_true hc] at e
    cases h3 : bc_hw C b q <;> cases h4 : bc_kn C b q <;> rw [h3, h4] at e <;> simp_all
  · rintro ⟨h3, h4⟩
    rw [h3, h4] at e
    exact of_decide_eq_true e
/-- VOTEs in all places that aren't known -/
theorem rl_smL {nv km : Nat} {C : cS} {S : mS} {b : Nat} (h : Rl nv km C S) (h1 : 1 ≤ b) (h2 : b ≤ km) (h6 : nI 2 ≤ C.2.1 6 b) (q : Nat) (hq : q ≤ 8) : Rl nv km (bc_smL C nv b q).2 (bh_agL S b q).2 ∧ (bc_smL C nv b q).1 = nI (bh_agL S b q).1 := by
  induction q with
  | zero => exact ⟨h, rfl⟩
  | succ q ih =>
    obtain ⟨i1, i2⟩ := ih (by omega)
    unfold bc_smL bh_agL
    by_cases hc : bc_hw C b q = true ∧ bc_kn C b q = false
    · rw [if_pos hc, if_pos ((rl_agC h h1 h2 (by omega)).mpr hc)]
      have h22 := bc_smL_2 C nv b q
      obtain ⟨r1, r2⟩ := rl_sv (rc := C.2.1 1 b &&& (C.2.2.1 12 b q ^^^ -1)) i1 h1 h2 (show q < 8 by omega) (by rw [h22]; exact ⟨h6, hc.1⟩) (by rw [h22])
      exact ⟨r1, by show (bc_smL C nv b q).1 + _ = _; rw [i2, ← r2, nI_add]⟩
    · rw [if_neg hc, if_neg (fun e => hc ((rl_agC h h1 h2 (by omega)).mp e))]
      exact ⟨i1, i2⟩
/-- in a ballot that begins to move all that was found goes out -/
theorem rl_bmL {nv km : Nat} {C : cS} {S : mS} {b : Nat} (h : Rl nv km C S) (h1 : 1 ≤ b) (h2 : b ≤ km) (h9 : C.2.1 9 b = nI 0) (h12 : ∀ q, q < 8 → C.2.2.1 12 b q = nI 0) (q : Nat) (hq : q ≤ 8) : bh_bmL S b q = (bh_agL S b q).2 := by
  obtain ⟨⟨x1, x2, x3, x4, x5, x6, x7, x8⟩, y, z, ⟨⟨w11, w12, w13, w14, w15⟩, w2, w3, w4, g, w5, w6, w7⟩⟩ := rl_mf_self h h1 h2
  induction q with
  | zero => rfl
  | succ q ih =>
    have hq8 : q < 8 := by omega
    have hkn : bc_kn C b q = false := by
      unfold bc_kn
      rw [h12 q hq8, rb_bc0]
      exact decide_eq_false (fun e => absurd (Int32.le_trans w3 e) (by decide))
    have ec : ((S.2.2.1 11 b >>> (nI q &&& 31)) &&& nI 1 = nI 1) ↔ bh_agC S b q = nI 1 := by
      rw [rl_agC h h1 h2 hq8, hkn, x7]
      have e1 := rb_h_shr w14 hq8
      have e2 : bc_hw C b q = rb_h (C.2.1 8 b) q := by
        show rb_h (C.2.1 8 b ||| C.2.1 9 b) q = _
        rw [rb_h_orr w14 w15 hq8, h9, rb_h_zero, Bool.or_false]
      rw [e2]
      constructor
      · intro e
        exact ⟨by rw [← e1]; exact decide_eq_true e, rfl⟩
      · rintro ⟨e, -⟩
        rw [← e1] at e
        exact of_decide_eq_true e
    unfold bh_bmL bh_agL
    by_cases hc : bh_agC S b q = nI 1
    · rw [if_pos (ec.mpr hc), if_pos hc, ih (by omega)]
    · rw [if_neg (fun e => hc (ec.mp e)), if_neg hc, ih (by omega)]
theorem rl_mvd {nv km : Nat} {C : cS} {S : mS} (h : Rl nv km C S) {b : Nat} (h1 : 1 ≤ b) (h2 : b ≤ km) : bh_mvd S b = decide (C.2.1 8 b &&& (bc_kp C b ^^^ -1) = 0) := by
  have x := rl_mf_self h h1 h2
  unfold bh_mvd
  rw [x.1.2.2.2.2.2.2.1, x.2.2.1]
/-- to the master -/
theorem rl_bask {nv km : Nat} {C : cS} {S : mS} (h : Rl nv km C S) {b : Nat} (h1 : 1 ≤ b) (h2 : b ≤ km) : Rl nv km (bc_sd (bc_f C 6 b (nI 3)) (nI 6) (nI b) (-1) (-1) 0) (bh_bask S b) := by
  refine rl_send (rl_state h h1 h2 ⟨3, by omega, rfl⟩ (fun _ => by decide) (fun e => absurd e (by decide)) (fun e => absurd (by decide) e)) ?_
  exact rl_z0 nv km _ (w := 6) (by omega) (by omega) ⟨h1, h2⟩ (fun z => absurd z (by omega)) (fun z => absurd z (by omega))
theorem rl_isr {nv km : Nat} {C : cS} {S : mS} (h : Rl nv km C S) {b : Nat} (h1 : 1 ≤ b) (h2 : b ≤ km) (f d : Nat) (hf : 1 ≤ f) (hd : f + d ≤ km + 1) : bc_irL C b f d = bh_isrL S b f d := by
  induction d with
  | zero => rfl
  | succ d ih =>
    unfold bc_irL bh_isrL
    have xj := rl_mf_self h (show 1 ≤ f + d by omega) (by omega)
    have xb := rl_mf_self h h1 h2
    rw [ih (by omega), xj.1.2.2.1, xj.1.2.1, xb.1.2.2.2.2.2.1, rb_many (rb_vand xb.2.2.2.1.2.2.1 (rl_mem h (by omega) (by omega))), Int32.and_comm]
theorem rl_ir {nv km : Nat} {C : cS} {S : mS} (h : Rl nv km C S) {b g : Nat} (h1 : 1 ≤ b) (h2 : b ≤ km) (hg : C.2.1 4 b = nI g) (hg24 : g ≤ 24) : bc_ir C b g = bh_isr S b g := by
  obtain ⟨g', g1, g2, g3⟩ := (rl_mf_self h h1 h2).2.2.2.2.2.2.2
  have e : g = g' := (nI_eq (by omega) (by have := h.1.2.1.2.2.1; omega)).mp (hg.symm.trans g2)
  subst e
  exact rl_isr h h1 h2 _ _ (bc_fr_pos g) (by unfold bh_fr; split <;> omega)
/-- in a state above reading -/
theorem rl_go2 {nv km : Nat} {C : cS} {S : mS} (h : Rl nv km C S) {b g : Nat} (h1 : 1 ≤ b) (h2 : b ≤ km) (h6 : ¬ C.2.1 6 b = nI 1) : Rl nv km (bc_go C nv b g) (if S.2.2.1 5 b = nI 2 ∧ bh_mvd S b = true then bh_bask S b else S) := by
  have e1 : bc_g1 C nv b g = C := if_neg (fun e => h6 e.1)
  unfold bc_go
  rw [e1, (rl_mf_self h h1 h2).1.1, rl_mvd h h1 h2]
  by_cases hc : C.2.1 6 b = nI 2 ∧ C.2.1 8 b &&& (bc_kp C b ^^^ -1) = 0
  · rw [if_pos hc, if_pos ⟨hc.1, decide_eq_true hc.2⟩]
    exact rl_bask h h1 h2
  · rw [if_neg hc, if_neg (fun e => hc ⟨e.1, of_decide_eq_true e.2⟩)]
    exact h
/-- in the state of reading -/
theorem rl_go1 {nv km : Nat} {C : cS} {S : mS} (h : Rl nv km C S) {b g : Nat} (h1 : 1 ≤ b) (h2 : b ≤ km) (hg : C.2.1 4 b = nI g) (hg24 : g ≤ 24) (h6 : C.2.1 6 b = nI 1) : Rl nv km (bc_go C nv b g) (if bh_isr S b g = true then bh_bmo S b else S) := by
  have x := rl_mf_self h h1 h2
  have lo := x.2.2.2.2.2.2.1.2.2 (by rw [h6]; decide)
  by_cases hc : bc_ir C b g = true
  · have e1 : bc_g1 C nv b g = (bc_smL (bc_f C 6 b (nI 2)) nv b 8).2 := if_pos ⟨h6, hc⟩
    rw [if_pos (by rw [← rl_ir h h1 h2 hg hg24]; exact hc)]
    have hs : Rl nv km (bc_f C 6 b (nI 2)) (bh_r S 5 b (nI 2)) := rl_state h h1 h2 ⟨2, by omega, rfl⟩ (fun _ => by decide) (fun e => absurd e (by decide)) (fun e => absurd (by decide) e)
    have e6 : (bc_f C 6 b (nI 2)).2.1 6 b = nI 2 := by rw [rd_f]; simp
    have hm := (rl_smL hs h1 h2 (by rw [e6]; decide) 8 (by omega)).1
    rw [← rl_bmL hs h1 h2 lo.1 lo.2 8 (by omega)] at hm
    have h22 := bc_smL_2 (bc_f C 6 b (nI 2)) nv b 8
    unfold bc_go bh_bmo
    rw [e1, rl_mvd hm h1 h2]
    by_cases hd : (bc_smL (bc_f C 6 b (nI 2)) nv b 8).2.2.1 8 b &&& (bc_kp (bc_smL (bc_f C 6 b (nI 2)) nv b 8).2 b ^^^ -1) = 0
    · rw [if_pos ⟨by rw [h22]; exact e6, hd⟩, if_pos (decide_eq_true hd)]
      exact rl_bask hm h1 h2
    · rw [if_neg (fun e => hd e.2), if_neg (fun e => hd (of_decide_eq_true e))]
      exact hm
  · have e1 : bc_g1 C nv b g = C := if_neg (fun e => hc e.2)
    rw [if_neg (by rw [← rl_ir h h1 h2 hg hg24]; exact hc)]
    unfold bc_go
    rw [e1, if_neg (fun e => by rw [h6] at e; exact absurd e.1 (by decide))]
    exact h
