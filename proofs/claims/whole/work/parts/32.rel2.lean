/-! single changes of a ballot -/
theorem rd_f (C : cS) (f b : Nat) (v : Int32) (g x : Nat) : (bc_f C f b v).2.1 g x = if g = f ∧ x = b then v else C.2.1 g x := by
  show va_up C.2.1 f (upd (C.2.1 f) b v) g x = _
  unfold va_up upd
  by_cases h : g = f
  · subst h
    by_cases h2 : x = b
    · simp [h2]
    · simp [h2]
  · simp [h]
theorem rd_q (C : cS) (f b p : Nat) (v : Int32) (g x y : Nat) : (bc_q C f b p v).2.2.1 g x y = if g = f ∧ x = b ∧ y = p then v else C.2.2.1 g x y := by
  show va_up C.2.2.1 f (va_up (C.2.2.1 f) b (upd (C.2.2.1 f b) p v)) g x y = _
  unfold va_up upd
  by_cases h : g = f
  · subst h
    by_cases h2 : x = b
    · subst h2
      by_cases h3 : y = p
      · simp [h3]
      · simp [h3]
    · simp [h2]
  · simp [h]
theorem rd_w (C : cS) (b p : Nat) (v : Int64) (x y : Nat) : (bc_w C b p v).2.2.2 x y = if x = b ∧ y = p then v else C.2.2.2 x y := by
  show va_up C.2.2.2 b (vp_updL (C.2.2.2 b) p v) x y = _
  unfold va_up vp_updL
  by_cases h2 : x = b
  · subst h2
    by_cases h3 : y = p
    · simp [h3]
    · simp [h3]
  · simp [h2]
theorem rd_r (S : mS) (k i : Nat) (v : Int32) (g x : Nat) : (bh_r S k i v).2.2.1 g x = if g = k ∧ x = i then v else S.2.2.1 g x := by
  show va_up S.2.2.1 k (upd (S.2.2.1 k) i v) g x = _
  unfold va_up upd
  by_cases h : g = k
  · subst h
    by_cases h2 : x = i
    · simp [h2]
    · simp [h2]
  · simp [h]
theorem rd_l (S : mS) (k i : Nat) (v : Int64) (g x : Nat) : (bh_l S k i v).2.2.2 g x = if g = k ∧ x = i then v else S.2.2.2 g x := by
  show va_up S.2.2.2 k (vp_updL (S.2.2.2 k) i v) g x = _
  unfold va_up vp_updL
  by_cases h : g = k
  · subst h
    by_cases h2 : x = i
    · simp [h2]
    · simp [h2]
  · simp [h]
theorem rd_fq (C : cS) (f b : Nat) (v : Int32) : (bc_f C f b v).2.2 = C.2.2 := rfl
theorem rd_qf (C : cS) (f b p : Nat) (v : Int32) : (bc_q C f b p v).2.1 = C.2.1 := rfl
theorem rd_qw (C : cS) (f b p : Nat) (v : Int32) : (bc_q C f b p v).2.2.2 = C.2.2.2 := rfl
theorem rd_wf (C : cS) (b p : Nat) (v : Int64) : (bc_w C b p v).2.1 = C.2.1 := rfl
theorem rd_wq (C : cS) (b p : Nat) (v : Int64) : (bc_w C b p v).2.2.1 = C.2.2.1 := rfl
theorem rd_rl (S : mS) (k i : Nat) (v : Int32) : (bh_r S k i v).2.2.2 = S.2.2.2 := rfl
theorem rd_lr (S : mS) (k i : Nat) (v : Int64) : (bh_l S k i v).2.2.1 = S.2.2.1 := rfl
theorem rl_mf_cg {B B' : cB} (f d : Nat) (h : ∀ j, f ≤ j → j < f + d → B'.1 1 j = B.1 1 j) : rl_mf B' f d = rl_mf B f d := by
  induction d with
  | zero => rfl
  | succ d ih =>
    show rl_mf B' f d ||| B'.1 1 (f + d) = rl_mf B f d ||| B.1 1 (f + d)
    rw [ih (fun j h1 h2 => h j h1 (by omega)), h (f + d) (by omega) (by omega)]
theorem rl_kp_cg {C C' : cS} {b : Nat} (h3 : C'.2.1 3 b = C.2.1 3 b) (h : ∀ q, q < 8 → C'.2.2.1 12 b q = C.2.2.1 12 b q) : bc_kp C' b = bc_kp C b := by
  have e : ∀ q, q ≤ 8 → bc_kpL C' b q = bc_kpL C b q := by
    intro q
    induction q with
    | zero => intro _; rfl
    | succ q ih =>
      intro hq
      have hk : bc_kn C' b q = bc_kn C b q := by
        unfold bc_kn
        rw [h3, h q (by omega)]
      unfold bc_kpL
      rw [hk, ih (by omega)]
  exact e 8 (by omega)
/-- one ballot has changed, on both sides -/
theorem rl_one {nv km : Nat} {C C' : cS} {S S' : mS} (b0 : Nat) (h : Rl nv km C S) (h1 : C'.1 = C.1) (hle : rl_le km C.2 C'.2) (hS : S'.1 = S.1 ∧ S'.2.1 = S.2.1) (hr : ∀ r, (r < 5 ∨ 17 < r) → S'.2.2.1 r = S.2.2.1 r) (hL : ∀ r, r ≠ 17 → S'.2.2.2 r = S.2.2.2 r)
    (ho : ∀ r b, b ≠ b0 → 5 ≤ r ∧ r ≤ 13 → S'.2.2.1 r b = S.2.2.1 r b) (hq : ∀ r b q, b ≠ b0 → q < 8 → 14 ≤ r ∧ r ≤ 16 → S'.2.2.1 r (8 * b + q) = S.2.2.1 r (8 * b + q)) (hw : ∀ b q, b ≠ b0 → q < 8 → S'.2.2.2 17 (8 * b + q) = S.2.2.2 17 (8 * b + q))
    (cf : ∀ f b, b ≠ b0 → C'.2.1 f b = C.2.1 f b) (cq : ∀ f b, b ≠ b0 → C'.2.2.1 f b = C.2.2.1 f b) (cw : ∀ b, b ≠ b0 → C'.2.2.2 b = C.2.2.2 b) (hb1 : 1 ≤ b0) (hb2 : b0 ≤ km) (hn : rl_b nv C' S' b0) : Rl nv km C' S' := by
  obtain ⟨⟨⟨a1, a2, a3⟩, ⟨a4, a5, a6, a7⟩, ⟨a8, a9⟩, a10⟩, rp, rw_, rz, rb, ru, rs⟩ := h
  obtain ⟨s1, s2⟩ := hS
  refine ⟨⟨⟨by rw [s1]; exact a1, by rw [s1]; exact a2, by rw [s1, h1]; exact a3⟩, ⟨a4, a5, a6, by rw [h1]; exact a7⟩, ⟨by rw [s2, h1]; exact a8, by rw [s2, h1]; exact a9⟩, by rw [h1]; exact a10⟩, ?_, ?_, ?_, ?_, ?_, ?_⟩
  · intro v hv
    rw [hr 1 (by omega), h1]
    exact rp v hv
  · intro v hv q hq
    rw [hr 2 (by omega), hL 3 (by omega), h1]
    exact rl_v_mono hq hle (rw_ v hv q hq)
  · unfold rl_z
    rw [hr 4 (by omega), h1]
    exact rz
  · intro b hb hk
    by_cases hbb : b = b0
    · rw [hbb]; exact hn
    · obtain ⟨⟨x1, x2, x3, x4, x5, x6, x7, x8⟩, y, z, ⟨w1, w2, w3, w4, g, w5, w6, w7⟩⟩ := rb b hb hk
      unfold rl_b rl_bi
      rw [ho 5 b hbb (by omega), ho 6 b hbb (by omega), ho 7 b hbb (by omega), ho 8 b hbb (by omega), ho 9 b hbb (by omega), ho 10 b hbb (by omega), ho 11 b hbb (by omega), ho 12 b hbb (by omega), ho 13 b hbb (by omega)]
      simp only [cf _ b hbb, cq _ b hbb, cw b hbb]
      refine ⟨⟨x1, x2, x3, x4, x5, x6, x7, x8⟩, fun q hq8 => ?_, ?_, w1, w2, w3, w4, g, w5, w6, ?_⟩
      · rw [hq 14 b q hbb hq8 (by omega), hq 15 b q hbb hq8 (by omega), hq 16 b q hbb hq8 (by omega), hw b q hbb hq8]
        exact y q hq8
      · rw [z]
        exact (rl_kp_cg (cf 3 b hbb) (fun q _ => by rw [cq 12 b hbb])).symm
      · rw [w7]
        have hfp := bc_fr_pos g
        exact (rl_mf_cg _ _ (fun j j1 j2 => hle.2 j (by omega) (by omega))).symm
  · intro b hb hk
    have hbb : b ≠ b0 := by omega
    rw [ho 5 b hbb (by omega), ho 10 b hbb (by omega), ho 11 b hbb (by omega), ho 12 b hbb (by omega), ho 13 b hbb (by omega)]
    refine ⟨(ru b hb hk).1, fun q hq8 => ?_⟩
    rw [hq 14 b q hbb hq8 (by omega), hq 15 b q hbb hq8 (by omega), hq 16 b q hbb hq8 (by omega), hw b q hbb hq8]
    exact (ru b hb hk).2 q hq8
  · intro i hi
    rw [h1] at hi
    unfold rl_l
    rw [hr 21 (by omega), hr 22 (by omega), hr 23 (by omega), hr 24 (by omega), hr 25 (by omega), hL 26 (by omega), hL 27 (by omega), h1]
    exact ⟨(rs i hi).1, rl_lc_mono hle (rs i hi).2⟩
theorem rl_mf_self {nv km : Nat} {C : cS} {S : mS} (h : Rl nv km C S) {b : Nat} (h1 : 1 ≤ b) (h2 : b ≤ km) : rl_b nv C S b := h.2.2.2.2.1 b h1 h2
theorem rl_ne8 {b b0 q q0 : Nat} (h : b ≠ b0) (hq : q < 8) (h0 : q0 < 8) : ¬ 8 * b + q = 8 * b0 + q0 := by omega
/-- the state of a ballot -/
theorem rl_state {nv km : Nat} {C : cS} {S : mS} {b : Nat} {x : Int32} (h : Rl nv km C S) (h1 : 1 ≤ b) (h2 : b ≤ km) (hx : ∃ j, j ≤ 4 ∧ x = nI j) (hm : nI 2 ≤ C.2.1 6 b → nI 2 ≤ x) (h0 : x = nI 0 → C.2.1 7 b = nI 0) (hlo : ¬ nI 2 ≤ x → C.2.1 9 b = nI 0 ∧ ∀ q, q < 8 → C.2.2.1 12 b q = nI 0) : Rl nv km (bc_f C 6 b x) (bh_r S 5 b x) := by
  obtain ⟨⟨x1, x2, x3, x4, x5, x6, x7, x8⟩, y, z, ⟨w1, w2, w3, w4, g, w5, w6, w7⟩⟩ := rl_mf_self h h1 h2
  refine rl_one b h rfl ⟨fun j q j1 j2 hq hf => ⟨?_, rfl⟩, fun j j1 j2 => ?_⟩ ⟨rfl, rfl⟩ (fun r hr => ?_) (fun r hr => rfl) (fun r c hc hr => ?_) (fun r c q hc hq hr => ?_) (fun c q hc hq => rfl) (fun f c hc => ?_) (fun f c hc => rfl) (fun c hc => rfl) h1 h2 ?_
  · obtain ⟨f1, f2⟩ := hf
    refine ⟨?_, ?_⟩
    · rw [rd_f]
      split
      · next hc => exact hm (by rw [← hc.2]; exact f1)
      · exact f1
    · rw [rd_f, rd_f]
      simpa using f2
  · rw [rd_f]
    simp
  · funext i
    rw [rd_r]
    simp
    omega
  · rw [rd_r]
    simp [hc]
  · rw [rd_r]
    simp
    omega
  · rw [rd_f]
    simp [hc]
  · have e6 : (bc_f C 6 b x).2.1 6 b = x := by rw [rd_f]; simp
    have e5 : (bh_r S 5 b x).2.2.1 5 b = x := by rw [rd_r]; simp
    unfold rl_b rl_bi
    rw [e6, e5]
    exact ⟨⟨rfl, x2, x3, x4, x5, x6, x7, x8⟩, y, z.trans (rl_kp_cg (C := C) (C' := bc_f C 6 b x) rfl (fun _ _ => rfl)).symm, w1, w2, w3, ⟨hx, h0, hlo⟩, g, w5, w6, w7.trans (rl_mf_cg (B := C.2) (B' := (bc_f C 6 b x).2) _ _ (fun _ _ _ => rfl)).symm⟩
/-- who has answered a READ -/
theorem rl_read {nv km : Nat} {C : cS} {S : mS} {b : Nat} {x : Int32} (h : Rl nv km C S) (h1 : 1 ≤ b) (h2 : b ≤ km) (hx : rb_v x) (h0 : ¬ C.2.1 6 b = nI 0) : Rl nv km (bc_f C 7 b x) (bh_r S 10 b x) := by
  obtain ⟨⟨x1, x2, x3, x4, x5, x6, x7, x8⟩, y, z, ⟨⟨w11, w12, w13, w14, w15⟩, w2, w3, w4, g, w5, w6, w7⟩⟩ := rl_mf_self h h1 h2
  refine rl_one b h rfl ⟨fun j q j1 j2 hq hf => ⟨hf, rfl⟩, fun j j1 j2 => rfl⟩ ⟨rfl, rfl⟩ (fun r hr => ?_) (fun r hr => rfl) (fun r c hc hr => ?_) (fun r c q hc hq hr => ?_) (fun c q hc hq => rfl) (fun f c hc => ?_) (fun f c hc => rfl) (fun c hc => rfl) h1 h2 ?_
  · funext i
    rw [rd_r]
    simp
    omega
  · rw [rd_r]
    simp [hc]
  · rw [rd_r]
    simp
    omega
  · rw [rd_f]
    simp [hc]
  · have e6 : (bc_f C 7 b x).2.1 7 b = x := by rw [rd_f]; simp
    have e5 : (bh_r S 10 b x).2.2.1 10 b = x := by rw [rd_r]; simp
    unfold rl_b rl_bi
    rw [e6, e5]
    exact ⟨⟨x1, x2, x3, x4, x5, rfl, x7, x8⟩, y, z.trans (rl_kp_cg (C := C) (C' := bc_f C 7 b x) rfl (fun _ _ => rfl)).symm, ⟨w11, w12, hx, w14, w15⟩, w2, w3, ⟨w4.1, fun e => absurd e h0, w4.2.2⟩, g, w5, w6, w7.trans (rl_mf_cg (B := C.2) (B' := (bc_f C 7 b x).2) _ _ (fun _ _ _ => rfl)).symm⟩
/-- a vote that was ever given -/
theorem rl_ever {nv km : Nat} {C : cS} {S : mS} {b q : Nat} {x : Int32} (h : Rl nv km C S) (h1 : 1 ≤ b) (h2 : b ≤ km) (hq : q < 8) (hx : rb_v x) (hm : x &&& C.2.1 1 b = x) : Rl nv km (bc_q C 13 b q x) (bh_r S 16 (8 * b + q) x) := by
  obtain ⟨⟨x1, x2, x3, x4, x5, x6, x7, x8⟩, y, z, ⟨w1, w2, w3, w4, g, w5, w6, w7⟩⟩ := rl_mf_self h h1 h2
  refine rl_one b h rfl ⟨fun j q j1 j2 hq hf => ⟨hf, rfl⟩, fun j j1 j2 => rfl⟩ ⟨rfl, rfl⟩ (fun r hr => ?_) (fun r hr => rfl) (fun r c hc hr => ?_) (fun r c q' hc hq' hr => ?_) (fun c q hc hq => rfl) (fun f c hc => rfl) (fun f c hc => ?_) (fun c hc => rfl) h1 h2 ?_
  · funext i
    rw [rd_r]
    simp
    omega
  · rw [rd_r]
    simp
    omega
  · rw [rd_r]
    simp
    omega
  · funext i
    rw [rd_q]
    simp [hc]
  · have e13 : ∀ q', (bc_q C 13 b q x).2.2.1 13 b q' = if q' = q then x else C.2.2.1 13 b q' := fun q' => by rw [rd_q]; simp
    have e16 : ∀ q', (bh_r S 16 (8 * b + q) x).2.2.1 16 (8 * b + q') = if q' = q then x else S.2.2.1 16 (8 * b + q') := fun q' => by rw [rd_r]; simp
    unfold rl_b rl_bi
    simp only [e13, e16]
    refine ⟨⟨x1, x2, x3, x4, x5, x6, x7, x8⟩, fun q' hq' => ?_, z.trans (rl_kp_cg (C := C) (C' := bc_q C 13 b q x) rfl (fun _ _ => rfl)).symm, w1, fun q' hq' => ?_, w3, w4, g, w5, w6, w7.trans (rl_mf_cg (B := C.2) (B' := (bc_q C 13 b q x).2) _ _ (fun _ _ _ => rfl)).symm⟩
    · obtain ⟨y1, y2, y3, y4⟩ := y q' hq'
      refine ⟨y1, y2, ?_, y4⟩
      by_cases e : q' = q
      · rw [if_pos e, if_pos e]
      · rw [if_neg e, if_neg e]; exact y3
    · obtain ⟨y1, y2, y3, y4⟩ := w2 q' hq'
      by_cases e : q' = q
      · rw [if_pos e]; exact ⟨y1, hx, hm, y4⟩
      · rw [if_neg e]; exact ⟨y1, y2, y3, y4⟩
/-- a value that is proposed -/
theorem rl_prop {nv km : Nat} {C : cS} {S : mS} {b q : Nat} {v : Int64} (h : Rl nv km C S) (h1 : 1 ≤ b) (h2 : b ≤ km) (hq : q < 8) (h4 : C.2.1 6 b = nI 4) (hw : rb_h (C.2.1 8 b ||| C.2.1 9 b) q = false) : Rl nv km (bc_w (bc_f C 9 b (C.2.1 9 b ||| bh_bit q)) b q v) (bh_l (bh_r S 12 b (S.2.2.1 12 b ||| bh_bit q)) 17 (8 * b + q) v) := by
  obtain ⟨⟨x1, x2, x3, x4, x5, x6, x7, x8⟩, y, z, ⟨⟨w11, w12, w13, w14, w15⟩, w2, w3, w4, g, w5, w6, w7⟩⟩ := rl_mf_self h h1 h2
  have e9 : ∀ f c, (bc_w (bc_f C 9 b (C.2.1 9 b ||| bh_bit q)) b q v).2.1 f c = if f = 9 ∧ c = b then C.2.1 9 b ||| bh_bit q else C.2.1 f c := fun f c => rd_f C 9 b _ f c
  have ew : ∀ c q', (bc_w (bc_f C 9 b (C.2.1 9 b ||| bh_bit q)) b q v).2.2.2 c q' = if c = b ∧ q' = q then v else C.2.2.2 c q' := fun c q' => rd_w _ b q v c q'
  have er : ∀ r i, (bh_l (bh_r S 12 b (S.2.2.1 12 b ||| bh_bit q)) 17 (8 * b + q) v).2.2.1 r i = if r = 12 ∧ i = b then S.2.2.1 12 b ||| bh_bit q else S.2.2.1 r i := fun r i => rd_r S 12 b _ r i
  have el : ∀ r i, (bh_l (bh_r S 12 b (S.2.2.1 12 b ||| bh_bit q)) 17 (8 * b + q) v).2.2.2 r i = if r = 17 ∧ i = 8 * b + q then v else S.2.2.2 r i := fun r i => rd_l _ 17 _ v r i
  have hh : ∀ q', q' < 8 → rb_h (C.2.1 8 b ||| (C.2.1 9 b ||| bh_bit q)) q' = (rb_h (C.2.1 8 b ||| C.2.1 9 b) q' || decide (q = q')) := fun q' hq' => by
    rw [rb_h_orr w14 (rb_pbit w15 hq) hq', rb_h_or w15 hq hq', rb_h_orr w14 w15 hq', Bool.or_assoc]
  refine rl_one b h rfl ⟨fun j q' j1 j2 hq' hf => ?_, fun j j1 j2 => rfl⟩ ⟨rfl, rfl⟩ (fun r hr => ?_) (fun r hr => ?_) (fun r c hc hr => ?_) (fun r c q' hc hq' hr => ?_) (fun c q' hc hq' => ?_) (fun f c hc => ?_) (fun f c hc => rfl) (fun c hc => ?_) h1 h2 ?_
  · obtain ⟨f1, f2⟩ := hf
    by_cases hj : j = b
    · subst hj
      have hne : ¬ q' = q := fun e => by rw [e, hw] at f2; cases f2
      refine ⟨⟨f1, ?_⟩, ?_⟩
      · rw [e9, e9, if_neg (by omega), if_pos ⟨rfl, rfl⟩, hh q' hq', f2]
        rfl
      · rw [ew, if_neg (fun e => hne e.2)]
    · refine ⟨⟨f1, ?_⟩, ?_⟩
      · rw [e9, e9, if_neg (by omega), if_neg (fun e => hj e.2)]
        exact f2
      · rw [ew, if_neg (fun e => hj e.1)]
  · funext i
    rw [er, if_neg (by omega)]
  · funext i
    rw [el, if_neg (by omega)]
  · rw [er, if_neg (by omega)]
  · rw [er, if_neg (by omega)]
  · rw [el, if_neg (by omega)]
  · rw [e9, if_neg (fun e => hc e.2)]
  · funext i
    rw [ew, if_neg (fun e => hc e.1)]
  · have e9b : (bc_w (bc_f C 9 b (C.2.1 9 b ||| bh_bit q)) b q v).2.1 9 b = C.2.1 9 b ||| bh_bit q := by rw [e9]; simp
    have er12 : (bh_l (bh_r S 12 b (S.2.2.1 12 b ||| bh_bit q)) 17 (8 * b + q) v).2.2.1 12 b = S.2.2.1 12 b ||| bh_bit q := by rw [er]; simp
    unfold rl_b rl_bi
    rw [e9b, er12]
    refine ⟨⟨x1, x2, x3, x4, x5, x6, x7, by rw [x8]⟩, fun q' hq' => ?_, z.trans (rl_kp_cg (C := C) (C' := bc_w (bc_f C 9 b (C.2.1 9 b ||| bh_bit q)) b q v) rfl (fun _ _ => rfl)).symm, ⟨w11, w12, w13, w14, rb_pbit w15 hq⟩, fun q' hq' => ?_, w3, ⟨w4.1, w4.2.1, fun e => absurd (by rw [show (bc_w (bc_f C 9 b (C.2.1 9 b ||| bh_bit q)) b q v).2.1 6 b = C.2.1 6 b from rfl, h4]; decide) e⟩, g, w5, w6, w7.trans (rl_mf_cg (B := C.2) (B' := (bc_w (bc_f C 9 b (C.2.1 9 b ||| bh_bit q)) b q v).2) _ _ (fun _ _ _ => rfl)).symm⟩
    · obtain ⟨y1, y2, y3, y4⟩ := y q' hq'
      refine ⟨y1, y2, y3, ?_⟩
      rw [el, ew]
      by_cases e : q' = q
      · rw [if_pos ⟨rfl, by rw [e]⟩, if_pos ⟨rfl, e⟩]
      · rw [if_neg (by omega), if_neg (fun w => e w.2)]; exact y4
    · obtain ⟨y1, y2, y3, y4, y5⟩ := w2 q' hq'
      refine ⟨y1, y2, y3, fun e => y4 ?_, y5⟩
      rw [show (bc_w (bc_f C 9 b (C.2.1 9 b ||| bh_bit q)) b q v).2.1 8 b = C.2.1 8 b from rfl, hh q' hq'] at e
      cases h9 : rb_h (C.2.1 8 b ||| C.2.1 9 b) q' with
      | false => rfl
      | true => rw [h9] at e; exact absurd e (by simp)
/-- a value that is found -/
theorem rl_found {nv km : Nat} {C : cS} {S : mS} {b q j : Nat} {v : Int64} (h : Rl nv km C S) (h1 : 1 ≤ b) (h2 : b ≤ km) (hq : q < 8) (h4 : C.2.1 6 b = nI 1) (hj : j ≤ 24) : Rl nv km (bc_w (bc_q (bc_f C 8 b (C.2.1 8 b ||| bh_bit q)) 10 b q (nI j)) b q v) (bh_r (bh_l (bh_r S 14 (8 * b + q) (nI j)) 17 (8 * b + q) v) 11 b (S.2.2.1 11 b ||| bh_bit q)) := by
  obtain ⟨⟨x1, x2, x3, x4, x5, x6, x7, x8⟩, y, z, ⟨⟨w11, w12, w13, w14, w15⟩, w2, w3, w4, g, w5, w6, w7⟩⟩ := rl_mf_self h h1 h2
  generalize hC' : bc_w (bc_q (bc_f C 8 b (C.2.1 8 b ||| bh_bit q)) 10 b q (nI j)) b q v = C'
  generalize hS' : bh_r (bh_l (bh_r S 14 (8 * b + q) (nI j)) 17 (8 * b + q) v) 11 b (S.2.2.1 11 b ||| bh_bit q) = S'
  have e8 : ∀ f c, C'.2.1 f c = if f = 8 ∧ c = b then C.2.1 8 b ||| bh_bit q else C.2.1 f c := fun f c => by rw [← hC']; exact rd_f C 8 b _ f c
  have eq : ∀ f c q', C'.2.2.1 f c q' = if f = 10 ∧ c = b ∧ q' = q then nI j else C.2.2.1 f c q' := fun f c q' => by rw [← hC']; exact rd_q _ 10 b q _ f c q'
  have ew : ∀ c q', C'.2.2.2 c q' = if c = b ∧ q' = q then v else C.2.2.2 c q' := fun c q' => by rw [← hC']; exact rd_w _ b q v c q'
  have er : ∀ r i, S'.2.2.1 r i = if r = 11 ∧ i = b then S.2.2.1 11 b ||| bh_bit q else if r = 14 ∧ i = 8 * b + q then nI j else S.2.2.1 r i := fun r i => by
    rw [← hS', rd_r, rd_lr, rd_r]
  have el : ∀ r i, S'.2.2.2 r i = if r = 17 ∧ i = 8 * b + q then v else S.2.2.2 r i := fun r i => by rw [← hS']; exact rd_l _ 17 _ v r i
  have hC1 : C'.1 = C.1 := by rw [← hC']; rfl
  have hS1 : S'.1 = S.1 ∧ S'.2.1 = S.2.1 := by rw [← hS']; exact ⟨rfl, rfl⟩
  have h12 : ¬ nI 2 ≤ C.2.1 6 b := by rw [h4]; decide
  refine rl_one b h hC1 ⟨fun i q' j1 j2 hq' hf => ?_, fun i j1 j2 => by rw [e8, if_neg (by omega)]⟩ hS1 (fun r hr => ?_) (fun r hr => ?_) (fun r c hc hr => ?_) (fun r c q' hc hq' hr => ?_) (fun c q' hc hq' => ?_) (fun f c hc => ?_) (fun f c hc => ?_) (fun c hc => ?_) h1 h2 ?_
  · obtain ⟨f1, f2⟩ := hf
    have hi : ¬ i = b := fun e => h12 (by rw [← e]; exact f1)
    refine ⟨⟨?_, ?_⟩, ?_⟩
    · rw [e8, if_neg (by omega)]; exact f1
    · rw [e8, e8, if_neg (fun e => hi e.2), if_neg (by omega)]; exact f2
    · rw [ew, if_neg (fun e => hi e.1)]
  · funext i
    rw [er, if_neg (by omega), if_neg (by omega)]
  · funext i
    rw [el, if_neg (by omega)]
  · rw [er, if_neg (by omega), if_neg (by omega)]
  · rw [er, if_neg (by omega), if_neg (by omega)]
  · rw [el, if_neg (by omega)]
  · rw [e8, if_neg (fun e => hc e.2)]
  · funext i
    rw [eq, if_neg (fun e => hc e.2.1)]
  · funext i
    rw [ew, if_neg (fun e => hc e.1)]
  · have ef : ∀ f, f ≠ 8 → C'.2.1 f b = C.2.1 f b := fun f hf => by rw [e8, if_neg (by omega)]
    have e12 : ∀ f q', f ≠ 10 → C'.2.2.1 f b q' = C.2.2.1 f b q' := fun f q' hf => by rw [eq, if_neg (by omega)]
    have esr : ∀ r, r ≠ 11 → r ≠ 14 → S'.2.2.1 r b = S.2.2.1 r b := fun r hr hr2 => by rw [er, if_neg (by omega), if_neg (by omega)]
    have es8 : ∀ r q', r ≠ 11 → r ≠ 14 → S'.2.2.1 r (8 * b + q') = S.2.2.1 r (8 * b + q') := fun r q' hr hr2 => by rw [er, if_neg (by omega), if_neg (by omega)]
    have e88 : C'.2.1 8 b = C.2.1 8 b ||| bh_bit q := by rw [e8, if_pos ⟨rfl, rfl⟩]
    have e11 : S'.2.2.1 11 b = S.2.2.1 11 b ||| bh_bit q := by rw [er, if_pos ⟨rfl, rfl⟩]
    unfold rl_b rl_bi
    rw [e88, e11, ef 1 (by omega), ef 2 (by omega), ef 3 (by omega), ef 4 (by omega), ef 5 (by omega), ef 6 (by omega), ef 7 (by omega), ef 9 (by omega), esr 5 (by omega) (by omega), esr 6 (by omega) (by omega), esr 7 (by omega) (by omega), esr 8 (by omega) (by omega), esr 9 (by omega) (by omega), esr 10 (by omega) (by omega), esr 12 (by omega) (by omega), esr 13 (by omega) (by omega)]
    refine ⟨⟨x1, x2, x3, x4, x5, x6, by rw [x7], x8⟩, fun q' hq' => ?_, z.trans (rl_kp_cg (ef 3 (by omega)) (fun q' _ => e12 12 q' (by omega))).symm, ⟨w11, w12, w13, rb_pbit w14 hq, w15⟩, fun q' hq' => ?_, w3, ⟨w4.1, w4.2.1, fun e => ⟨(w4.2.2 e).1, fun q' hq' => by rw [e12 12 q' (by omega)]; exact (w4.2.2 e).2 q' hq'⟩⟩, g, w5, w6, w7.trans (rl_mf_cg _ _ (fun i _ _ => by rw [e8, if_neg (by omega)])).symm⟩
    · obtain ⟨y1, y2, y3, y4⟩ := y q' hq'
      rw [e12 12 q' (by omega), e12 13 q' (by omega), es8 15 q' (by omega) (by omega), es8 16 q' (by omega) (by omega), el, ew, er, eq]
      by_cases e : q' = q
      · subst e
        simp [y2, y3]
      · rw [if_neg (by omega), if_neg (by omega), if_neg (by omega), if_neg (by omega), if_neg (by omega)]
        exact ⟨y1, y2, y3, y4⟩
    · obtain ⟨y1, y2, y3, y4, y5⟩ := w2 q' hq'
      rw [e12 12 q' (by omega), e12 13 q' (by omega)]
      refine ⟨y1, y2, y3, fun _ => (w4.2.2 h12).2 q' hq', ?_⟩
      rw [eq]
      split
      · exact nI_le (Nat.zero_le _) (by omega)
      · exact y5
