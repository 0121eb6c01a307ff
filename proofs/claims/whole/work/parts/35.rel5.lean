/-! whole calls -/
theorem rl_ff {nv km : Nat} {C : cS} {S : mS} (h : Rl nv km C S) (f j : Nat) (hj : j + f ≤ C.1.1 15) : bh_ff S f j = (bc_ff C f j).getD (j + f) := by
  induction f generalizing j with
  | zero => rfl
  | succ f ih =>
    unfold bh_ff bc_ff
    have e := rl_fs h (show j < C.1.1 15 by omega)
    by_cases hc : bh_cb S j = true
    · rw [hc] at e
      rw [if_pos hc, if_neg (by rw [e]; decide)]
      rfl
    · have hc2 : bh_cb S j = false := by simpa using hc
      rw [hc2] at e
      rw [if_neg hc, if_pos (by rw [e]; decide), ih (j + 1) (by omega), show j + 1 + f = j + (f + 1) by omega]
theorem rl_fst {nv km : Nat} {C : cS} {S : mS} (h : Rl nv km C S) : bh_fst S = (bc_fd C).getD (C.1.1 15) := by
  have := rl_ff h (C.1.1 15) 0 (by omega)
  rw [Nat.zero_add] at this
  unfold bh_fst bc_fd
  rw [h.1.1.2.2]
  exact this
theorem rl_stl {nv km : Nat} (n : Nat) : ∀ {C : cS} {S : mS}, Rl nv km C S → (bc_stl nv km C n).1 = (bh_stl S n).1 ∧ Rl nv km (bc_stl nv km C n).2 (bh_stl S n).2 := by
  induction n with
  | zero =>
    intro C S h
    rw [bc_stl, bh_stl]
    exact ⟨rfl, h⟩
  | succ n ih =>
    intro C S h
    have e := rl_fst h
    cases hf : bc_fd C with
    | none =>
      rw [hf] at e
      have e : bh_fst S = C.1.1 15 := e
      rw [bc_stl_e nv km C _ hf, bh_stl_e S _ (by rw [e, h.1.1.2.2]; exact Nat.lt_irrefl _)]
      exact ⟨rfl, h⟩
    | some k =>
      rw [hf] at e
      have e : bh_fst S = k := e
      have hk := (bc_ff_in C _ _ hf).2.1
      rw [Nat.zero_add] at hk
      rw [bc_stl_s nv km C n hf, bh_stl_s S n (by rw [e, h.1.1.2.2]; exact hk), e]
      obtain ⟨i1, i2⟩ := ih (rl_dlv h hk)
      exact ⟨by show _ + 1 = _ + 1; rw [i1], i2⟩
theorem rl_mstl {nv km : Nat} {C : cS} {S : mS} (h : Rl nv km C S) (x : Int32) : (bc_mstl C nv km x).1 = (bh_mstl S x).1 ∧ Rl nv km (bc_mstl C nv km x).2 (bh_mstl S x).2 := by
  unfold bc_mstl bh_mstl
  by_cases hx : x < 0
  · rw [if_pos hx, if_pos hx]
    exact ⟨rfl, h⟩
  · rw [if_neg hx, if_neg hx]
    obtain ⟨a, b⟩ := rl_stl x.toNatClampNeg h
    exact ⟨by show nI _ = nI _; rw [a], b⟩
theorem rl_mdel {nv km : Nat} {C : cS} {S : mS} (h : Rl nv km C S) (x : Int32) : (bc_mdel C nv km x).1 = (bh_mdel S x).1 ∧ Rl nv km (bc_mdel C nv km x).2 (bh_mdel S x).2 := by
  unfold bc_mdel bh_mdel
  rw [h.1.1.2.2]
  rcases hx : bh_ix x (C.1.1 15) with _ | k
  · exact ⟨rfl, h⟩
  · obtain ⟨hk, -⟩ := bh_ix_some hx
    have e := rl_fs h hk
    dsimp only
    by_cases hc : bh_cb S k = true
    · rw [hc] at e
      rw [if_pos hc, if_neg (by rw [e]; decide)]
      exact ⟨rfl, rl_dlv h hk⟩
    · have hc2 : bh_cb S k = false := by simpa using hc
      rw [hc2] at e
      rw [if_neg hc, if_pos (by rw [e]; decide)]
      exact ⟨rfl, h⟩
theorem rl_mlose {nv km : Nat} {C : cS} {S : mS} (h : Rl nv km C S) (x : Int32) : (bc_mlose C x).1 = (bh_mlose S x).1 ∧ Rl nv km (bc_mlose C x).2 (bh_mlose S x).2 := by
  unfold bc_mlose bh_mlose
  rw [h.1.1.2.2]
  rcases hx : bh_ix x (C.1.1 15) with _ | k
  · exact ⟨rfl, h⟩
  · exact ⟨rfl, rl_drop h (bh_ix_some hx).1⟩
theorem rl_mtw {nv km : Nat} {C : cS} {S : mS} (h : Rl nv km C S) (x : Int32) : (bc_mtw C x).1 = (bh_mtw S x).1 ∧ Rl nv km (bc_mtw C x).2 (bh_mtw S x).2 := by
  have h4 := h.1.2.1.2.2.2
  unfold bc_mtw bh_mtw
  rw [h.1.1.2.2]
  rcases hx : bh_ix x (C.1.1 15) with _ | k
  · exact ⟨rfl, h⟩
  · dsimp only
    by_cases hc : C.1.1 15 < 400
    · rw [if_pos hc, if_neg (by omega)]
      exact ⟨rfl, rl_twice h (bh_ix_some hx).1 hc⟩
    · rw [if_neg hc, if_pos (by omega)]
      exact ⟨rfl, h⟩
theorem rl_msil {nv km : Nat} {C : cS} {S : mS} (h : Rl nv km C S) (x z : Int32) : (bc_msil C nv x z).1 = (bh_msil S x z).1 ∧ Rl nv km (bc_msil C nv x z).2 (bh_msil S x z).2 := by
  have hn := h.1.2.1.2.1
  unfold bc_msil bh_msil
  rw [h.1.1.1]
  rcases hx : bh_ix x nv with _ | v
  · exact ⟨rfl, h⟩
  · obtain ⟨hv, -⟩ := bh_ix_some hx
    refine ⟨rfl, ?_⟩
    obtain ⟨ha, rp, rw_, ⟨z1, z2⟩, rb, ru, rs⟩ := h
    have hbit : rb_v (bh_bit v) := ⟨2 ^ v, by have : 2 ^ v < 2 ^ 7 := Nat.pow_lt_pow_right (by omega) (by omega); omega, rb_bit v (by omega)⟩
    have hsame : ∀ u, u < nv → rb_h (bh_bit v) u = decide (v = u) := by
      intro u hu
      have := rb_h_or rb_p0 (v := v) (q := u) (by omega) (by omega)
      rw [rb_h_zero, Bool.false_or] at this
      rw [← this, show nI 0 ||| bh_bit v = bh_bit v from Int32.zero_or]
    have e4 : ∀ u, (bh_sil S v z).2.2.1 4 u = if u = v then z else S.2.2.1 4 u := fun u => by
      unfold bh_sil
      rw [rd_r]
      simp
    dsimp only
    by_cases hz : z = 0
    · rw [if_pos hz]
      refine ⟨ha, rp, rw_, ⟨rb_vnot z1 hbit, fun u hu => ?_⟩, rb, ru, rs⟩
      rw [e4]
      show _ ↔ rb_h (C.1.2.1 3 &&& (bh_bit v ^^^ -1)) u = false
      rw [rb_h_not (rb_vp z1) (rb_vp hbit) (by omega), hsame u hu]
      by_cases e : u = v
      · rw [if_pos e, decide_eq_true e.symm]
        simp [hz]
      · rw [if_neg e, decide_eq_false (fun w => e w.symm)]
        simpa using z2 u hu
    · rw [if_neg hz]
      refine ⟨ha, rp, rw_, ⟨rb_vbit z1 (by omega), fun u hu => ?_⟩, rb, ru, rs⟩
      rw [e4]
      show _ ↔ rb_h (C.1.2.1 3 ||| bh_bit v) u = false
      rw [rb_h_or (rb_vp z1) (by omega) (by omega)]
      by_cases e : u = v
      · rw [if_pos e, decide_eq_true e.symm]
        simp [hz]
      · rw [if_neg e, decide_eq_false (fun w => e w.symm), Bool.or_false]
        exact z2 u hu
theorem rl_mpro {nv km : Nat} {C : cS} {S : mS} (h : Rl nv km C S) (x y : Int32) (z : Int64) : (bc_mpro C nv km x y z).1 = (bh_mpro S x y z).1 ∧ Rl nv km (bc_mpro C nv km x y z).2 (bh_mpro S x y z).2 := by
  unfold bc_mpro bh_mpro
  rw [h.1.1.2.1]
  rcases hx : bh_ixb x km with _ | b
  · exact ⟨rfl, h⟩
  · obtain ⟨h1, h2, -⟩ := bh_ixb_some hx
    dsimp only
    rcases hy : bh_ix y 8 with _ | q
    · exact ⟨rfl, h⟩
    · obtain ⟨hq, -⟩ := bh_ix_some hy
      dsimp only
      obtain ⟨⟨x1, x2, x3, x4, x5, x6, x7, x8⟩, yy, zz, ⟨⟨w11, w12, w13, w14, w15⟩, w2, w3, w4, g, w5, w6, w7⟩⟩ := rl_mf_self h h1 h2
      have e := rb_h_shr (rb_por w14 w15) hq
      have ec : (C.2.1 6 b = nI 4 ∧ bc_hw C b q = false) ↔ (S.2.2.1 5 b = nI 4 ∧ ¬ ((S.2.2.1 11 b ||| S.2.2.1 12 b) >>> (nI q &&& 31)) &&& nI 1 = nI 1) := by
        rw [x1, x7, x8]
        constructor
        · rintro ⟨a1, a2⟩
          refine ⟨a1, fun w => ?_⟩
          rw [decide_eq_true w] at e
          rw [show bc_hw C b q = rb_h (C.2.1 8 b ||| C.2.1 9 b) q from rfl, ← e] at a2
          cases a2
        · rintro ⟨a1, a2⟩
          refine ⟨a1, ?_⟩
          rw [decide_eq_false a2] at e
          exact e.symm
      by_cases hc : C.2.1 6 b = nI 4 ∧ bc_hw C b q = false
      · rw [if_pos hc, if_pos (ec.mp hc)]
        refine ⟨rfl, ?_⟩
        have hw : rb_h (C.2.1 8 b ||| C.2.1 9 b) q = false := hc.2
        have r := rl_prop (v := z) h h1 h2 hq hc.1 hw
        refine (rl_sv (rc := C.2.1 1 b) r h1 h2 hq ⟨?_, ?_⟩ ?_).1
        · show nI 2 ≤ C.2.1 6 b
          rw [hc.1]
          decide
        · show rb_h (C.2.1 8 b ||| (bc_f C 9 b (C.2.1 9 b ||| bh_bit q)).2.1 9 b) q = true
          rw [rd_f, if_pos ⟨rfl, rfl⟩, rb_h_orr w14 (rb_pbit w15 hq) hq, rb_h_or w15 hq hq]
          simp
        · show C.2.1 1 b = C.2.1 1 b &&& (C.2.2.1 12 b q ^^^ -1)
          rw [(w2 q hq).2.2.2.1 hw, rb_n0 (rb_vp (rl_mem h h1 h2))]
      · rw [if_neg hc, if_neg (fun w => hc (ec.mpr w))]
        exact ⟨rfl, h⟩
theorem rl_magn {nv km : Nat} {C : cS} {S : mS} (h : Rl nv km C S) (x : Int32) : (bc_magn C nv km x).1 = (bh_magn S x).1 ∧ Rl nv km (bc_magn C nv km x).2 (bh_magn S x).2 := by
  unfold bc_magn bh_magn
  rw [h.1.1.2.1]
  have hkm := h.1.2.1.2.2.1
  rcases hx : bh_ixb x km with _ | b
  · exact ⟨rfl, h⟩
  · obtain ⟨h1, h2, -⟩ := bh_ixb_some hx
    dsimp only
    have xb := rl_mf_self h h1 h2
    obtain ⟨g, g1, g2, g3⟩ := xb.2.2.2.2.2.2.2
    obtain ⟨⟨j, j1, j2⟩, -⟩ := xb.2.2.2.2.2.2.1
    unfold bc_ag bh_ag
    rw [xb.1.1, xb.1.2.2.2.2.1, g2, nI_clamp (by omega)]
    have hl : ∀ w, (w = 1 ∨ w = 6) → rl_lc nv km C.2 (nI w) (nI b) (-1) (-1) 0 0 bh_z0 bh_z1 := fun w hw => rl_z0 nv km _ (by omega) (by omega) ⟨h1, h2⟩ (fun z => absurd z (by omega)) (fun z => absurd z (by omega))
    by_cases c0 : C.2.1 6 b = nI 0
    · rw [if_pos c0, if_pos c0]
      exact ⟨rfl, rl_send h (hl 1 (by omega))⟩
    · rw [if_neg c0, if_neg c0]
      by_cases c1 : C.2.1 6 b = nI 1
      · rw [if_pos c1, if_pos c1]
        obtain ⟨r1, r2⟩ := rl_sr (rc := C.2.1 5 b &&& (C.2.1 7 b ^^^ -1)) h h1 h2 g2 (by omega) rfl
        exact ⟨r2.symm, r1⟩
      · rw [if_neg c1, if_neg c1]
        by_cases c3 : C.2.1 6 b = nI 3
        · rw [if_pos c3, if_pos c3]
          exact ⟨rfl, rl_send h (hl 6 (by omega))⟩
        · rw [if_neg c3, if_neg c3]
          have h6 : nI 2 ≤ C.2.1 6 b := by
            rw [j2]
            rcases (show j = 0 ∨ j = 1 ∨ 2 ≤ j by omega) with e | e | e
            · exact absurd (by rw [j2, e]) c0
            · exact absurd (by rw [j2, e]) c1
            · exact nI_le e (by omega)
          obtain ⟨r1, r2⟩ := rl_smL h h1 h2 h6 8 (by omega)
          exact ⟨r2, r1⟩
-- questions
theorem rl_qprom {nv km : Nat} {C : cS} {S : mS} (h : Rl nv km C S) (x : Int32) : bc_mprom C nv x = bh_mprom S x := by
  unfold bc_mprom bh_mprom
  rw [h.1.1.1]
  rcases hx : bh_ix x nv with _ | v
  · rfl
  · exact (h.2.1 v (bh_ix_some hx).1).symm
theorem rl_qvote {nv km : Nat} {C : cS} {S : mS} (h : Rl nv km C S) (x y : Int32) : bc_mvote C nv x y = bh_mvote S x y := by
  unfold bc_mvote bh_mvote
  rw [h.1.1.1]
  rcases hx : bh_ix x nv with _ | v
  · rfl
  · dsimp only
    rcases hy : bh_ix y 8 with _ | q
    · rfl
    · exact (h.2.2.1 v (bh_ix_some hx).1 q (bh_ix_some hy).1).1.symm
theorem rl_qvalue {nv km : Nat} {C : cS} {S : mS} (h : Rl nv km C S) (x y : Int32) : bc_mvalue C nv km x y = bh_mvalue S x y := by
  have hkm := h.1.2.1.2.2.1
  unfold bc_mvalue bh_mvalue
  rw [h.1.1.1]
  rcases hx : bh_ix x nv with _ | v
  · rfl
  · dsimp only
    rcases hy : bh_ix y 8 with _ | q
    · rfl
    · dsimp only
      unfold bc_vaw
      rcases (h.2.2.1 v (bh_ix_some hx).1 q (bh_ix_some hy).1).2 with ⟨e1, e2⟩ | ⟨j, j1, j2, j3, j4, -⟩
      · rw [e2, show bh_ixb (bh_at (C.1.2.2.2 2 v) q) km = none by rw [e1]; exact if_neg (by rw [nI_toInt (by omega)]; omega)]
      · rw [j3, bh_ixb_nI j1 j2 (by omega), j4]
theorem rl_qof {nv km : Nat} {C : cS} {S : mS} (h : Rl nv km C S) (x y : Int32) : bc_mof C km x y = bh_mof S x y := by
  unfold bc_mof bh_mof
  rw [h.1.1.2.1]
  rcases hx : bh_ixb x km with _ | b
  · rfl
  · dsimp only
    rcases hy : bh_ix y 9 with _ | j
    · rfl
    · dsimp only
      obtain ⟨hj, -⟩ := bh_ix_some hy
      obtain ⟨h1, h2, -⟩ := bh_ixb_some hx
      obtain ⟨⟨x1, x2, x3, x4, x5, x6, x7, x8⟩, yy, zz, -⟩ := rl_mf_self h h1 h2
      rcases (show j = 0 ∨ j = 1 ∨ j = 2 ∨ j = 3 ∨ j = 4 ∨ j = 5 ∨ j = 6 ∨ j = 7 ∨ j = 8 by omega) with rfl | rfl | rfl | rfl | rfl | rfl | rfl | rfl | rfl
      · exact x1.symm
      · exact x2.symm
      · exact x3.symm
      · exact x4.symm
      · exact x5.symm
      · exact x6.symm
      · exact x7.symm
      · exact x8.symm
      · exact zz.symm
theorem rl_qansw {nv km : Nat} {C : cS} {S : mS} (h : Rl nv km C S) (x y : Int32) : bc_mansw C km x y = bh_mansw S x y := by
  unfold bc_mansw bh_mansw
  rw [h.1.1.2.1]
  rcases hx : bh_ixb x km with _ | b
  · rfl
  · dsimp only
    rcases hy : bh_ix y 8 with _ | q
    · rfl
    · obtain ⟨h1, h2, -⟩ := bh_ixb_some hx
      exact ((rl_mf_self h h1 h2).2.1 q (bh_ix_some hy).1).2.1.symm
theorem rl_qsaid {nv km : Nat} {C : cS} {S : mS} (h : Rl nv km C S) (x y : Int32) : bc_msaid C km x y = bh_msaid S x y := by
  unfold bc_msaid bh_msaid
  rw [h.1.1.2.1]
  rcases hx : bh_ixb x km with _ | b
  · rfl
  · dsimp only
    rcases hy : bh_ix y 8 with _ | q
    · rfl
    · obtain ⟨h1, h2, -⟩ := bh_ixb_some hx
      exact ((rl_mf_self h h1 h2).2.1 q (bh_ix_some hy).1).2.2.2.symm
theorem rl_hc {nv km : Nat} {C : cS} {S : mS} (h : Rl nv km C S) {b q : Nat} (h1 : 1 ≤ b) (h2 : b ≤ km) (hq : q < 8) : bc_hc C b q = bh_cho S b q := by
  have xb := rl_mf_self h h1 h2
  have w := xb.2.2.2.2.1 q hq
  unfold bc_hc bh_cho
  rw [xb.1.2.2.2.1, xb.1.2.1, (xb.2.1 q hq).2.2.1, w.2.2.1, rb_many w.2.1]
theorem rl_chL {nv km : Nat} {C : cS} {S : mS} (h : Rl nv km C S) {q : Nat} (hq : q < 8) (f b : Nat) (h1 : 1 ≤ b) (hf : b + f ≤ km + 1) : bc_chL C q f b = bh_chL S q f b := by
  induction f generalizing b with
  | zero => rfl
  | succ f ih =>
    unfold bc_chL bh_chL
    rw [rl_hc h h1 (by omega) hq, ih (b + 1) (by omega) (by omega)]
theorem rl_ch {nv km : Nat} {C : cS} {S : mS} (h : Rl nv km C S) {q : Nat} (hq : q < 8) : bc_ch C km q = bh_ch S q := by
  unfold bc_ch bh_ch
  rw [h.1.1.2.1]
  exact rl_chL h hq km 1 (by omega) (by omega)
theorem rl_qcho {nv km : Nat} {C : cS} {S : mS} (h : Rl nv km C S) (x : Int32) : bc_mcho C km x = bh_mcho S x := by
  unfold bc_mcho bh_mcho
  rcases hx : bh_ix x 8 with _ | q
  · rfl
  · dsimp only
    rw [rl_ch h (bh_ix_some hx).1]
theorem rl_chv {nv km : Nat} {C : cS} {S : mS} (h : Rl nv km C S) {q : Nat} (hq : q < 8) : bc_chv C km q = bh_chv S q := by
  unfold bc_chv bh_chv
  rw [← rl_ch h hq]
  rcases hc : bc_ch C km q with _ | b
  · rfl
  · have hb := bc_chL_in C q _ _ hc
    exact ((rl_mf_self h (show 1 ≤ b by omega) (by omega)).2.1 q hq).2.2.2.symm
theorem rl_qchv {nv km : Nat} {C : cS} {S : mS} (h : Rl nv km C S) (x : Int32) : bc_mchv C km x = bh_mchv S x := by
  unfold bc_mchv bh_mchv
  rcases hx : bh_ix x 8 with _ | q
  · rfl
  · exact rl_chv h (bh_ix_some hx).1
theorem rl_one_iff (S : mS) (q f : Nat) : bh_one S q f = true ↔ ∀ b, 1 ≤ b → b ≤ f → bh_cho S b q = true → S.2.2.2 17 (8 * b + q) = bh_chv S q := by
  induction f with
  | zero => exact ⟨fun _ b h1 h2 => absurd h2 (by omega), fun _ => rfl⟩
  | succ f ih =>
    unfold bh_one
    by_cases hc : bh_cho S (f + 1) q = true
    · rw [if_pos hc, Bool.and_eq_true, ih, decide_eq_true_iff]
      constructor
      · rintro ⟨a1, a2⟩ b h1 h2 h3
        by_cases e : b = f + 1
        · rw [e]; exact a2
        · exact a1 b h1 (by omega) h3
      · intro a
        exact ⟨fun b h1 h2 => a b h1 (by omega), a (f + 1) (by omega) (by omega) hc⟩
    · rw [if_neg hc, ih]
      constructor
      · intro a b h1 h2 h3
        by_cases e : b = f + 1
        · rw [e] at h3; exact absurd h3 hc
        · exact a b h1 (by omega) h3
      · intro a b h1 h2
        exact a b h1 (by omega)
theorem rl_onec_iff (C : cS) (q b d : Nat) : bc_oneL C q b d = true ↔ ∀ i, i < d → bc_hc C (b + 1 + i) q = true → C.2.2.2 (b + 1 + i) q = C.2.2.2 b q := by
  induction d with
  | zero => exact ⟨fun _ i hi => absurd hi (by omega), fun _ => rfl⟩
  | succ d ih =>
    unfold bc_oneL
    rw [Bool.and_eq_true, ih]
    constructor
    · rintro ⟨a1, a2⟩ i hi h3
      by_cases e : i = d
      · subst e
        rw [h3] at a2
        exact of_decide_eq_true (by simpa using a2)
      · exact a1 i (by omega) h3
    · intro a
      refine ⟨fun i hi => a i (by omega), ?_⟩
      cases hc : bc_hc C (b + 1 + d) q with
      | false => rfl
      | true => rw [decide_eq_true (a d (by omega) hc)]; rfl
theorem rl_chL_no (C : cS) (q f b : Nat) {j : Nat} (h : bc_chL C q f b = some j) : bc_hc C j q = true ∧ ∀ i, b ≤ i → i < j → bc_hc C i q = false := by
  induction f generalizing b with
  | zero => cases h
  | succ f ih =>
    unfold bc_chL at h
    split at h
    · next hc =>
      cases h
      exact ⟨hc, fun i h1 h2 => absurd h2 (by omega)⟩
    · next hc =>
      obtain ⟨a1, a2⟩ := ih (b + 1) h
      refine ⟨a1, fun i h1 h2 => ?_⟩
      by_cases e : i = b
      · rw [e]; simpa using hc
      · exact a2 i (by omega) h2
theorem rl_chL_none (C : cS) (q f b : Nat) (h : bc_chL C q f b = none) : ∀ i, b ≤ i → i < b + f → bc_hc C i q = false := by
  induction f generalizing b with
  | zero => intro i h1 h2; omega
  | succ f ih =>
    unfold bc_chL at h
    split at h
    · cases h
    · next hc =>
      intro i h1 h2
      by_cases e : i = b
      · rw [e]; simpa using hc
      · exact ih (b + 1) h i (by omega) (by omega)
theorem rl_one1 {nv km : Nat} {C : cS} {S : mS} (h : Rl nv km C S) {q : Nat} (hq : q < 8) : bc_one C km q = bh_one S q km := by
  have key : (bc_one C km q = true ↔ bh_one S q km = true) := by
    rw [rl_one_iff, ← rl_chv h hq]
    unfold bc_one bc_chv
    rcases hc : bc_ch C km q with _ | b
    · dsimp only
      refine ⟨fun _ i i1 i2 i3 => ?_, fun _ => rfl⟩
      rw [← rl_hc h i1 i2 hq, rl_chL_none C q _ _ hc i i1 (by omega)] at i3
      cases i3
    · dsimp only
      obtain ⟨n1, n2⟩ := rl_chL_no C q _ _ hc
      have hb := bc_chL_in C q _ _ hc
      rw [rl_onec_iff]
      constructor
      · intro a i i1 i2 i3
        rw [← rl_hc h i1 i2 hq] at i3
        rw [((rl_mf_self h i1 i2).2.1 q hq).2.2.2]
        by_cases e : i = b
        · rw [e]
        · by_cases e2 : i < b
          · rw [n2 i i1 e2] at i3; cases i3
          · have := a (i - (b + 1)) (by omega)
            rw [show b + 1 + (i - (b + 1)) = i by omega] at this
            exact this i3
      · intro a i hi h3
        have hi2 : b + 1 + i ≤ km := by omega
        have := a (b + 1 + i) (by omega) hi2 (by rw [← rl_hc h (by omega) hi2 hq]; exact h3)
        rw [((rl_mf_self h (by omega) hi2).2.1 q hq).2.2.2] at this
        exact this
  cases h1 : bc_one C km q <;> cases h2 : bh_one S q km <;> simp_all
theorem rl_qone {nv km : Nat} {C : cS} {S : mS} (h : Rl nv km C S) (x : Int32) : bc_mone C km x = bh_mone S x := by
  unfold bc_mone bh_mone
  rw [h.1.1.2.1]
  rcases hx : bh_ix x 8 with _ | q
  · rfl
  · dsimp only
    rw [rl_one1 h (bh_ix_some hx).1]
theorem rl_qair {nv km : Nat} {C : cS} {S : mS} (h : Rl nv km C S) (x y : Int32) : bc_mair C x y = bh_mair S x y := by
  have hkm := h.1.2.1.2.2.1
  unfold bc_mair bh_mair
  rw [h.1.1.2.2]
  rcases hx : bh_ix x (C.1.1 15) with _ | k
  · rfl
  · dsimp only
    rcases hy : bh_ix y 5 with _ | j
    · rfl
    · dsimp only
      obtain ⟨hj, -⟩ := bh_ix_some hy
      obtain ⟨⟨l1, l2, l3, l4⟩, w, b, c1, c2, cw, cb, c5, c6, c7, c8⟩ := h.2.2.2.2.2.2 k (bh_ix_some hx).1
      rcases (show j = 0 ∨ j = 1 ∨ j = 2 ∨ j = 3 ∨ j = 4 by omega) with rfl | rfl | rfl | rfl | rfl
      · exact l1.symm
      · exact l2.symm
      · exact l3.symm
      · exact l4.symm
      · rw [if_pos rfl, if_pos rfl]
        have e : ∀ q, q ≤ 8 → bh_plL (C.1.2.2.2 14 k) q = bh_abL S k q := by
          intro q
          induction q with
          | zero => intro _; rfl
          | succ q ih =>
            intro hq
            have hq8 : q < 8 := by omega
            unfold bh_plL bh_abL
            rw [ih (by omega)]
            by_cases h3 : w = 3
            · obtain ⟨v1, v2⟩ := c7 h3 q hq8
              rw [show S.2.2.1 25 (8 * k + q) = bh_at (C.1.2.2.2 14 k) q from v1]
              rcases v2 with ⟨v3, -⟩ | ⟨i, i1, i2, i3, -, -⟩
              · rw [v3, if_pos (by decide), if_neg (by decide)]
                exact Int32.or_zero.symm
              · rw [i3, if_neg (nI_ne0 (by omega) (by omega)), if_pos (show (0 : Int32) < nI i from nI_lt (a := 0) (by omega) (by omega))]
            · obtain ⟨t1, t2⟩ := c8 h3
              rw [t1, rb_at0 q hq8, if_pos (by decide), show S.2.2.1 25 (8 * k + q) = nI 0 from t2 q hq8, if_neg (by decide)]
              exact Int32.or_zero.symm
        exact e 8 (by omega)
theorem rl_qabo {nv km : Nat} {C : cS} {S : mS} (h : Rl nv km C S) (x : Int32) : bc_mabo C nv km x = bh_mabo S x := by
  unfold bc_mabo bh_mabo
  rw [h.1.1.1, h.1.1.2.1, h.1.1.2.2, h.1.2.2.1.1, h.1.2.2.1.2]
  rcases bh_ix x 5 with _ | j <;> rfl
