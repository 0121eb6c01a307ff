/-! a new ballot -/
def bc_nbB (C : cS) (km : Nat) (x y z rd : Int32) : cB := (fun f b => if b = km + 1 then (if f = 1 then x else if f = 2 then y else if f = 3 then z else if f = 4 then C.1.2.1 6 else if f = 5 then rd else 0) else C.2.1 f b, fun f b => if b = km + 1 then (fun _ => 0) else C.2.2.1 f b, fun b => if b = km + 1 then (fun _ => 0) else C.2.2.2 b)
def bc_nb (C : cS) (km : Nat) (x y z : Int32) (g : Nat) : cS := (C.1, bc_nbB C km x y z (bc_mfL C (bh_fr g) (km + 1 - bh_fr g)))
def bc_bal (C : cS) (km : Nat) (x y z : Int32) (g : Nat) : cS := bc_sd (bc_nb C km x y z g) (nI 1) (nI (km + 1)) (-1) (-1) 0
theorem rn_f (C : cS) (km : Nat) (x y z rd : Int32) {f b : Nat} (h : b ≤ km) : (bc_nbB C km x y z rd).1 f b = C.2.1 f b := if_neg (by omega)
theorem rn_q (C : cS) (km : Nat) (x y z rd : Int32) {f b : Nat} (h : b ≤ km) : (bc_nbB C km x y z rd).2.1 f b = C.2.2.1 f b := if_neg (by omega)
theorem rn_w (C : cS) (km : Nat) (x y z rd : Int32) {b : Nat} (h : b ≤ km) : (bc_nbB C km x y z rd).2.2 b = C.2.2.2 b := if_neg (by omega)
theorem rn_fn (C : cS) (km : Nat) (x y z rd : Int32) (f : Nat) : (bc_nbB C km x y z rd).1 f (km + 1) = if f = 1 then x else if f = 2 then y else if f = 3 then z else if f = 4 then C.1.2.1 6 else if f = 5 then rd else 0 := if_pos rfl
theorem rn_qn (C : cS) (km : Nat) (x y z rd : Int32) (f : Nat) : (bc_nbB C km x y z rd).2.1 f (km + 1) = fun _ => 0 := if_pos rfl
theorem rn_wn (C : cS) (km : Nat) (x y z rd : Int32) : (bc_nbB C km x y z rd).2.2 (km + 1) = fun _ => 0 := if_pos rfl
theorem rn_fix {C : cS} {km : Nat} {x y z rd : Int32} {b q : Nat} (h : b ≤ km) (hf : rl_fix C.2 b q) : rl_fix (bc_nbB C km x y z rd) b q := by
  unfold rl_fix at hf ⊢
  rw [rn_f C km x y z rd h, rn_f C km x y z rd h, rn_f C km x y z rd h]
  exact hf
theorem rn_v {C : cS} {km : Nat} {x y z rd : Int32} {q : Nat} {a m : Int32} {u : Int64} (v : rl_v km C.2 q a m u) : rl_v (km + 1) (bc_nbB C km x y z rd) q a m u := by
  obtain ⟨h1, h2⟩ := v
  refine ⟨h1, ?_⟩
  rcases h2 with h2 | ⟨j, j1, j2, j3, j4, j5⟩
  · exact Or.inl h2
  · exact Or.inr ⟨j, j1, by omega, j3, by rw [rn_w C km x y z rd j2]; exact j4, rn_fix j2 j5⟩
theorem rn_lc {C : cS} {nv km : Nat} {x y z rd : Int32} {kd bb vv pp : Int32} {t u : Int64} {f : Nat → Int32} {g : Nat → Int64} (v : rl_lc nv km C.2 kd bb vv pp t u f g) : rl_lc nv (km + 1) (bc_nbB C km x y z rd) kd bb vv pp t u f g := by
  obtain ⟨w, b, h1, h2, h3, ⟨h41, h42⟩, h5, h6, h7, h8⟩ := v
  refine ⟨w, b, h1, h2, h3, ⟨h41, by omega⟩, fun hw => ?_, fun hw => ?_, fun hw q hq => rn_v (h7 hw q hq), h8⟩
  · obtain ⟨v, v1, v2, v3⟩ := h5 hw
    exact ⟨v, v1, v2, fun e => by rw [rn_f C km x y z rd h42]; exact v3 e⟩
  · obtain ⟨q, q1, q2, q3, q4⟩ := h6 hw
    exact ⟨q, q1, q2, rn_fix h42 q3, fun e => by rw [rn_w C km x y z rd h42]; exact q4 e⟩
theorem rn_mf {nv km : Nat} {C : cS} {S : mS} (h : Rl nv km C S) (f d : Nat) (hf : 1 ≤ f) (hd : f + d ≤ km + 1) : ∃ m, m < 2 ^ nv ∧ rl_mf C.2 f d = nI m := by
  have hn := h.1.2.1.2.1
  have h27 : 2 ^ nv ≤ 2 ^ 7 := Nat.pow_le_pow_right (by omega) hn
  induction d with
  | zero => exact ⟨0, Nat.pow_pos (by omega), rfl⟩
  | succ d ih =>
    obtain ⟨a, a1, a2⟩ := ih (by omega)
    obtain ⟨b, b1, b2⟩ := (rl_mf_self h (show 1 ≤ f + d by omega) (by omega)).2.2.2.1.1
    refine ⟨a ||| b, Nat.or_lt_two_pow a1 b1, ?_⟩
    show rl_mf C.2 f d ||| C.2.1 1 (f + d) = _
    rw [a2, b2, rb_or (by omega) (by omega)]
theorem rn_pow : ∀ n, n < 8 → nI 1 <<< (nI n &&& 31) = nI (2 ^ n) := by decide +kernel
theorem rn_pos : ∀ m, m < 128 → (decide (bh_many (nI m) = 0) = decide (m = 0)) := by decide +kernel
/-- may it be: the two sides say alike -/
theorem rn_can {nv km : Nat} {C : cS} {S : mS} (h : Rl nv km C S) (x y z : Int32) : (km < 24 ∧ bc_cbC nv x y z) ↔ bh_blC S x y z := by
  have hn := h.1.2.1.2.1
  have hkm := h.1.2.1.2.2.1
  have h27 : 2 ^ nv ≤ 2 ^ 7 := Nat.pow_le_pow_right (by omega) hn
  rw [show bh_blC S x y z = (¬ x < 0 ∧ x < nI 1 <<< (nI (S.1 0) &&& 31) ∧ ¬ bh_many x = 0 ∧ ¬ y < nI 1 ∧ ¬ bh_many x < y ∧ ¬ z < nI 1 ∧ ¬ bh_many x < z ∧ ¬ y + z ≤ bh_many x ∧ ¬ S.1 18 = 24) from rfl, h.1.1.1, h.1.1.2.1, rn_pow nv (by omega)]
  have e0 : ∀ m, m < 128 → x = nI m → (bh_many x = bh_bc x ∧ (bh_many x = 0 ↔ m = 0)) := by
    rintro m m1 rfl
    refine ⟨rb_cnt m m1, ?_⟩
    have := rn_pos m m1
    rwa [decide_eq_decide] at this
  constructor
  · rintro ⟨k, a1, a2, a3, a4, a5, a6, a7⟩
    rw [rn_pow nv (by omega)] at a2
    have p0 : 1 ≤ x.toInt := by
      have := Int32.le_iff_toInt_le.mp (Int32.not_lt.mp a1)
      rw [nI_toInt (by omega)] at this
      exact this
    have p1 : x.toInt < 2 ^ nv := by
      have := bh_ltI.mp a2
      rw [nI_toInt (by omega)] at this
      simpa using this
    have ex := bh_nI_of_toInt (show 0 ≤ x.toInt by omega)
    have hlt : x.toInt.toNat < 2 ^ nv := by
      have : ((x.toInt.toNat : Nat) : Int) < ((2 ^ nv : Nat) : Int) := by
        rw [Int.toNat_of_nonneg (by omega)]
        simpa using p1
      exact Int.ofNat_lt.mp this
    obtain ⟨q1, q2⟩ := e0 x.toInt.toNat (by omega) ex
    rw [q1]
    exact ⟨fun e => absurd (bh_lt0.mp e) (by omega), a2, fun e => by rw [← q1] at e; have := q2.mp e; omega, a3, a4, a5, a6, a7, by omega⟩
  · rintro ⟨a1, a2, a3, a4, a5, a6, a7, a8, a9⟩
    have p0 : 0 ≤ x.toInt := by
      by_cases e : x.toInt < 0
      · exact absurd (bh_lt0.mpr e) a1
      · omega
    have p1 : x.toInt < 2 ^ nv := by
      have := bh_ltI.mp a2
      rw [nI_toInt (by omega)] at this
      simpa using this
    have ex := bh_nI_of_toInt p0
    have hlt : x.toInt.toNat < 2 ^ nv := by
      have : ((x.toInt.toNat : Nat) : Int) < ((2 ^ nv : Nat) : Int) := by
        rw [Int.toNat_of_nonneg (by omega)]
        simpa using p1
      exact Int.ofNat_lt.mp this
    obtain ⟨q1, q2⟩ := e0 x.toInt.toNat (by omega) ex
    rw [q1] at a5 a7 a8
    refine ⟨by omega, fun e => a3 (q2.mpr ?_), by rw [rn_pow nv (by omega)]; exact a2, a4, a5, a6, a7, a8⟩
    have := bh_ltI.mp e
    rw [nI_toInt (by omega)] at this
    omega
theorem rn_kp0 {C : cS} {b : Nat} (h3 : nI 1 ≤ C.2.1 3 b) (h : ∀ q, q < 8 → C.2.2.1 12 b q = nI 0) : bc_kp C b = nI 0 := by
  refine rb_ext (rl_kp_p C b) rb_p0 (fun q hq => ?_)
  rw [rl_kp_h C b hq, rb_h_zero]
  unfold bc_kn
  rw [h q hq, rb_bc0]
  exact decide_eq_false (fun e => absurd (Int32.le_trans h3 e) (by decide))
theorem rl_new {nv km : Nat} {C : cS} {S : mS} {x y z : Int32} {g : Nat} (h : Rl nv km C S) (hk : km < 24) (hc : bc_cbC nv x y z) (hg : C.1.2.1 6 = nI g) (hg2 : g ≤ km) : Rl nv (km + 1) (bc_nb C km x y z g) (bh_blA S x y z) := by
  have h0 := h
  obtain ⟨⟨⟨a1, a2, a3⟩, ⟨a4, a5, a6, a7⟩, ⟨a8, a9⟩, a10⟩, rp, rw_, rz, rb, ru, rs⟩ := h
  have hfp := bc_fr_pos g
  have hfr : bh_fr g ≤ km + 1 := by unfold bh_fr; split <;> omega
  have er : ∀ r i, (bh_blA S x y z).2.2.1 r i = if i = km + 1 then (if r = 9 then S.2.1 19 else if r = 8 then z else if r = 7 then y else if r = 6 then x else S.2.2.1 r i) else S.2.2.1 r i := by
    intro r i
    unfold bh_blA
    rw [rd_r, rd_r, rd_r, rd_r, a2]
    show (if r = 9 ∧ i = km + 1 then S.2.1 19 else if r = 8 ∧ i = km + 1 then z else if r = 7 ∧ i = km + 1 then y else if r = 6 ∧ i = km + 1 then x else S.2.2.1 r i) = _
    by_cases e : i = km + 1
    · simp [e]
    · simp [e]
  have ero : ∀ r i, i ≠ km + 1 → (bh_blA S x y z).2.2.1 r i = S.2.2.1 r i := fun r i hi => by rw [er, if_neg hi]
  have err : ∀ r, (r < 6 ∨ 9 < r) → (bh_blA S x y z).2.2.1 r = S.2.2.1 r := fun r hr => by
    funext i
    rw [er]
    split
    · rw [if_neg (by omega), if_neg (by omega), if_neg (by omega), if_neg (by omega)]
    · rfl
  have el : (bh_blA S x y z).2.2.2 = S.2.2.2 := rfl
  refine ⟨⟨⟨a1, by show S.1 18 + 1 = km + 1; rw [a2], a3⟩, ⟨a4, a5, by omega, a7⟩, ⟨a8, a9⟩, g, by omega, hg⟩, fun v hv => by rw [err 1 (by omega)]; exact rp v hv, fun v hv q hq => by rw [err 2 (by omega), el]; exact rn_v (rw_ v hv q hq), by unfold rl_z; rw [err 4 (by omega)]; exact rz, fun b hb1 hb2 => ?_, fun b hb1 hb2 => ?_, fun i hi => ?_⟩
  · by_cases hb : b = km + 1
    · subst hb
      obtain ⟨⟨u1, u2, u3, u4, u5⟩, u6⟩ := ru (km + 1) (by omega) (by omega)
      obtain ⟨c1, c2, c3, c4, c5, c6, c7⟩ := hc
      have hz1 : nI 1 ≤ z := Int32.not_lt.mp c5
      have hcf : ∀ f, (bc_nb C km x y z g).2.1 f (km + 1) = if f = 1 then x else if f = 2 then y else if f = 3 then z else if f = 4 then C.1.2.1 6 else if f = 5 then bc_mfL C (bh_fr g) (km + 1 - bh_fr g) else 0 := fun f => rn_fn C km x y z _ f
      have hcq : ∀ f, (bc_nb C km x y z g).2.2.1 f (km + 1) = fun _ => 0 := fun f => rn_qn C km x y z _ f
      have hcw : (bc_nb C km x y z g).2.2.2 (km + 1) = fun _ => 0 := rn_wn C km x y z _
      have e1 : (bc_nb C km x y z g).2.1 1 (km + 1) = x := hcf 1
      have e2 : (bc_nb C km x y z g).2.1 2 (km + 1) = y := hcf 2
      have e3 : (bc_nb C km x y z g).2.1 3 (km + 1) = z := hcf 3
      have e4 : (bc_nb C km x y z g).2.1 4 (km + 1) = C.1.2.1 6 := hcf 4
      have e5 : (bc_nb C km x y z g).2.1 5 (km + 1) = bc_mfL C (bh_fr g) (km + 1 - bh_fr g) := hcf 5
      have e6 : (bc_nb C km x y z g).2.1 6 (km + 1) = nI 0 := hcf 6
      have e7 : (bc_nb C km x y z g).2.1 7 (km + 1) = nI 0 := hcf 7
      have e8 : (bc_nb C km x y z g).2.1 8 (km + 1) = nI 0 := hcf 8
      have e9 : (bc_nb C km x y z g).2.1 9 (km + 1) = nI 0 := hcf 9
      have s9 : (bh_blA S x y z).2.2.1 9 (km + 1) = C.1.2.1 6 := by rw [er, if_pos rfl, if_pos rfl, a8]
      have s8 : (bh_blA S x y z).2.2.1 8 (km + 1) = z := by rw [er, if_pos rfl]; rfl
      have s7 : (bh_blA S x y z).2.2.1 7 (km + 1) = y := by rw [er, if_pos rfl]; rfl
      have s6 : (bh_blA S x y z).2.2.1 6 (km + 1) = x := by rw [er, if_pos rfl]; rfl
      have h27 : 2 ^ nv ≤ 2 ^ 7 := Nat.pow_le_pow_right (by omega) a5
      have hx : ∃ m, m < 2 ^ nv ∧ x = nI m := by
        rw [rn_pow nv (by omega)] at c2
        have p0 : 1 ≤ x.toInt := by
          have := Int32.le_iff_toInt_le.mp (Int32.not_lt.mp c1)
          rw [nI_toInt (by omega)] at this
          exact this
        have p1 : x.toInt < 2 ^ nv := by
          have := bh_ltI.mp c2
          rw [nI_toInt (by omega)] at this
          simpa using this
        refine ⟨x.toInt.toNat, ?_, bh_nI_of_toInt (by omega)⟩
        have : ((x.toInt.toNat : Nat) : Int) < ((2 ^ nv : Nat) : Int) := by
          rw [Int.toNat_of_nonneg (by omega)]
          simpa using p1
        exact Int.ofNat_lt.mp this
      have hkp : bc_kp (bc_nb C km x y z g) (km + 1) = nI 0 := rn_kp0 (by rw [e3]; exact hz1) (fun q _ => by rw [hcq]; rfl)
      have hz0 : nI 0 &&& x = nI 0 := Int32.zero_and
      unfold rl_b rl_bi
      rw [e1, e2, e3, e4, e5, e6, e7, e8, e9, s6, s7, s8, s9, hkp, err 5 (by omega), err 10 (by omega), err 11 (by omega), err 12 (by omega), err 13 (by omega), err 14 (by omega), err 15 (by omega), err 16 (by omega), el]
      simp only [hcq, hcw]
      refine ⟨⟨u1, (by first | rfl | trivial | (intros; first | rfl | trivial)), (by first | rfl | trivial | (intros; first | rfl | trivial)), (by first | rfl | trivial | (intros; first | rfl | trivial)), (by first | rfl | trivial | (intros; first | rfl | trivial)), u2, u3, u4⟩, u6, u5, ⟨hx, ?_, rb_v0, rb_p0, rb_p0⟩, fun q hq => ⟨rb_v0, rb_v0, hz0, (by first | rfl | trivial | (intros; first | rfl | trivial)), by decide⟩, hz1, ⟨⟨0, by omega, rfl⟩, (by first | rfl | trivial | (intros; first | rfl | trivial)), (by first | trivial | (intros; first | trivial | exact ⟨rfl, fun _ _ => rfl⟩ | exact ⟨trivial, fun _ _ => rfl⟩ | exact ⟨rfl, fun _ _ => trivial⟩))⟩, g, by omega, hg, ?_⟩
      · rw [rl_mf_eq]
        exact rn_mf h0 _ _ hfp (by omega)
      · rw [rl_mf_eq]
        exact (rl_mf_cg _ _ (fun j j1 j2 => rn_f C km x y z _ (by omega))).symm
    · have hb3 : b ≤ km := by omega
      obtain ⟨⟨x1, x2, x3, x4, x5, x6, x7, x8⟩, yy, zz, ⟨w1, w2, w3, w4, g', w5, w6, w7⟩⟩ := rb b hb1 hb3
      have hcf : ∀ f, (bc_nb C km x y z g).2.1 f b = C.2.1 f b := fun f => rn_f C km x y z _ hb3
      have hcq : ∀ f, (bc_nb C km x y z g).2.2.1 f b = C.2.2.1 f b := fun f => rn_q C km x y z _ hb3
      have hcw : (bc_nb C km x y z g).2.2.2 b = C.2.2.2 b := rn_w C km x y z _ hb3
      have hbn : b ≠ km + 1 := hb
      unfold rl_b rl_bi
      rw [err 5 (by omega), err 10 (by omega), err 11 (by omega), err 12 (by omega), err 13 (by omega), err 14 (by omega), err 15 (by omega), err 16 (by omega), el, ero 6 b hbn, ero 7 b hbn, ero 8 b hbn, ero 9 b hbn]
      simp only [hcf, hcq, hcw]
      refine ⟨⟨x1, x2, x3, x4, x5, x6, x7, x8⟩, yy, zz.trans (rl_kp_cg (hcf 3) (fun q _ => by rw [hcq])).symm, w1, w2, w3, w4, g', w5, w6, w7.trans (rl_mf_cg _ _ (fun j j1 j2 => rn_f C km x y z _ ?_)).symm⟩
      have : bh_fr g' ≤ b ∨ b < bh_fr g' := by omega
      omega
  · rw [err 5 (by omega), err 10 (by omega), err 11 (by omega), err 12 (by omega), err 13 (by omega), err 14 (by omega), err 15 (by omega), err 16 (by omega), el]
    exact ru b (by omega) hb2
  · obtain ⟨k1, k2⟩ := rs i hi
    unfold rl_l
    rw [err 21 (by omega), err 22 (by omega), err 23 (by omega), err 24 (by omega), err 25 (by omega), el]
    exact ⟨k1, rn_lc k2⟩
theorem rl_mbal {nv km : Nat} {C : cS} {S : mS} {x y z : Int32} {g : Nat} (h : Rl nv km C S) (hk : km < 24) (hc : bc_cbC nv x y z) (hg : C.1.2.1 6 = nI g) (hg2 : g ≤ km) : Rl nv (km + 1) (bc_bal C km x y z g) (bh_bal S x y z) := by
  have r := rl_send (kd := nI 1) (bb := nI (km + 1)) (vv := -1) (pp := -1) (t := 0) (x := 0) (f := bh_z0) (g := bh_z1) (rl_new h hk hc hg hg2) (rl_z0 nv (km + 1) _ (w := 1) (by omega) (by omega) ⟨by omega, by omega⟩ (fun e => absurd e (by omega)) (fun e => absurd e (by omega)))
  unfold bc_bal bh_bal
  rw [h.1.1.2.1]
  exact r
