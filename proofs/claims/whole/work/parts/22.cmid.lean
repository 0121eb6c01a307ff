set_option maxHeartbeats 4000000 in
set_option maxRecDepth 100000 in
theorem cc_canBe (l : Launch) (D : va_G) (c : bh_C) (h : Nat) (ad : Nat → Nat) (ba : Nat → Nat → Nat) (nv km : Nat) (C : cS) (x y z : Int32) : Met l yX3_canBe wsX3_canBe ({ frames := 1, cells := 0, slots := 0, locals := 20 }) (va_Pc [.ref h, .int (x), .int (y), .int (z)] (bh_pre D c (bh_cw h ad ba c nv km (C)))) (vp_Si (fun r => r = bh_tf (decide (bc_cbC nv x y z)))) 0 0 (fun _ => False) := by
  refine Met.ofW (cc := cX3_canBe) (maxL := 5) (ret := (some .boolean)) (by decide) rfl ?_
  intro p e s m args below meth c0 s₁ B hml hv
  obtain ⟨rfl, hP, hK, hD0⟩ := hv
  have hx := B.exec
  have hb := B.bytes
  have hr := B.returns
  have hts := atoms_spec (ws := wsX3_canBe) B.pre
  have hown : s.vm.findClass RX3 = some m.cls := findClass_of_methodNamed B.named
  have hlocks := B.notSynchronized
  have hinX3 : ∀ w ∈ wsX30, w ∈ wsX3_canBe := fun _ h => List.mem_cons_of_mem _ (List.mem_append_right _ h)
  have lk_18 : (Cond.fieldLink RX3 18 "BallotHouse" "voters" "I").before _ s = true := hts _ (by decide +kernel)
  have hI : bh_I D (bh_cw h ad ba c nv km (C)) (fun _ => True) s.heap s.heap [] := ⟨hP, hD0, va_S.rf⟩
  have hl := lv_entry ([.ref h, .int (x), .int (y), .int (z)]) (n := 5) (Nat.le_of_ble_eq_true rfl)
  rw [lg_entry_eq]
  generalize (lg_sl ([.ref h, .int (x), .int (y), .int (z)]) ++ List.replicate (5 - (lg_sl ([.ref h, .int (x), .int (y), .int (z)])).length) Slot.unset).toArray = ls at hl ⊢
  have hl : lv_has ls 5 [(0, .ref h), (1, .int (x)), (2, .int (y)), (3, .int (z))] := hl
  refine lv_iload_n hx hb dX3_canBe_0 rfl (lv_at hl 1 rfl) ?_
  refine lv_iconst (v := nI 1) hx hb dX3_canBe_1 (by decide) ?_
  refine lv_icmp_lt (tgt := 15) hx hb dX3_canBe_2 (by decide) (fun c_1 => ?_) (fun c_1 => ?_)
  · refine lv_iconst (v := nI 0) hx hb dX3_canBe_15 (by decide) ?_
    exact bn_rotz hx hb hr hlocks (by rw [decide_eq_false (show ¬ bc_cbC nv x y z from fun w => by obtain ⟨w1, w2, w3, w4, w5, w6, w7⟩ := w; exact w1 c_1)]; rfl) (by decide) dX3_canBe_16
  · refine lv_iload_n hx hb dX3_canBe_5 rfl (lv_at hl 1 rfl) ?_
    refine lv_iconst (v := nI 1) hx hb dX3_canBe_6 (by decide) ?_
    refine lv_aload_n hx hb dX3_canBe_7 rfl (lv_at hl 0 rfl) ?_
    refine bn_get (ci := 2) (v := .int (nI nv)) (C := RX3) (T := TX3) (N := 8) hx hb hts hinX3 hown hK hI 0 rfl rfl 0 (by decide) lk_18 rfl (rfl) dX3_canBe_8 ?_
    refine lv_ishl hx hb dX3_canBe_11 ?_
    refine lv_icmp_lt (tgt := 17) hx hb dX3_canBe_12 (by decide) (fun c_2 => ?_) (fun c_2 => ?_)
    · refine lv_iload_n hx hb dX3_canBe_17 rfl (lv_at hl 1 rfl) ?_
      refine vp_callSi (bn_roS (As := [.int (x)]) (rest := []) ⟨hx, hb, hml, hown, hts⟩ (cc_bitCount l (x)) (va_cwS 1 hts gX3_canBe_J6_bitCount_0f7a4 rfl rfl rfl (by decide +kernel) ⟨Nat.le_of_ble_eq_true rfl, Nat.le_of_ble_eq_true rfl⟩) rfl hl.1 (Nat.le_of_ble_eq_true rfl) dX3_canBe_18 ⟨Nat.le_of_ble_eq_true rfl, Nat.le_of_ble_eq_true rfl⟩) (fun r_3 er_3 => ?_)
      subst er_3
      refine lv_istore (lv' := [(4, .int (bh_bc (x))), (0, .ref h), (1, .int (x)), (2, .int (y)), (3, .int (z))]) hx hb dX3_canBe_21 hl (by decide) rfl (fun ls hl => ?_)
      refine lv_iload_n hx hb dX3_canBe_23 rfl (lv_at hl 3 rfl) ?_
      refine lv_iconst (v := nI 1) hx hb dX3_canBe_24 (by decide) ?_
      refine lv_icmp_lt (tgt := 57) hx hb dX3_canBe_25 (by decide) (fun c_4 => ?_) (fun c_4 => ?_)
      · refine lv_iconst (v := nI 0) hx hb dX3_canBe_57 (by decide) ?_
        exact bn_rotz hx hb hr hlocks (by rw [decide_eq_false (show ¬ bc_cbC nv x y z from fun w => by obtain ⟨w1, w2, w3, w4, w5, w6, w7⟩ := w; exact w3 c_4)]; rfl) (by decide) dX3_canBe_58
      · refine lv_iload_n hx hb dX3_canBe_28 rfl (lv_at hl 3 rfl) ?_
        refine lv_iload hx hb dX3_canBe_29 (lv_at hl 0 rfl) ?_
        refine lv_icmp_gt (tgt := 57) hx hb dX3_canBe_31 (by decide) (fun c_5 => ?_) (fun c_5 => ?_)
        · refine lv_iconst (v := nI 0) hx hb dX3_canBe_57 (by decide) ?_
          exact bn_rotz hx hb hr hlocks (by rw [decide_eq_false (show ¬ bc_cbC nv x y z from fun w => by obtain ⟨w1, w2, w3, w4, w5, w6, w7⟩ := w; exact w4 c_5)]; rfl) (by decide) dX3_canBe_58
        · refine lv_iload_n hx hb dX3_canBe_34 rfl (lv_at hl 4 rfl) ?_
          refine lv_iconst (v := nI 1) hx hb dX3_canBe_35 (by decide) ?_
          refine lv_icmp_lt (tgt := 57) hx hb dX3_canBe_36 (by decide) (fun c_6 => ?_) (fun c_6 => ?_)
          · refine lv_iconst (v := nI 0) hx hb dX3_canBe_57 (by decide) ?_
            exact bn_rotz hx hb hr hlocks (by rw [decide_eq_false (show ¬ bc_cbC nv x y z from fun w => by obtain ⟨w1, w2, w3, w4, w5, w6, w7⟩ := w; exact w5 c_6)]; rfl) (by decide) dX3_canBe_58
          · refine lv_iload_n hx hb dX3_canBe_39 rfl (lv_at hl 4 rfl) ?_
            refine lv_iload hx hb dX3_canBe_40 (lv_at hl 0 rfl) ?_
            refine lv_icmp_gt (tgt := 57) hx hb dX3_canBe_42 (by decide) (fun c_7 => ?_) (fun c_7 => ?_)
            · refine lv_iconst (v := nI 0) hx hb dX3_canBe_57 (by decide) ?_
              exact bn_rotz hx hb hr hlocks (by rw [decide_eq_false (show ¬ bc_cbC nv x y z from fun w => by obtain ⟨w1, w2, w3, w4, w5, w6, w7⟩ := w; exact w6 c_7)]; rfl) (by decide) dX3_canBe_58
            · refine lv_iload_n hx hb dX3_canBe_45 rfl (lv_at hl 3 rfl) ?_
              refine lv_iload_n hx hb dX3_canBe_46 rfl (lv_at hl 4 rfl) ?_
              refine lv_iadd hx hb dX3_canBe_47 ?_
              refine lv_iload hx hb dX3_canBe_48 (lv_at hl 0 rfl) ?_
              refine lv_icmp_le (tgt := 57) hx hb dX3_canBe_50 (by decide) (fun c_8 => ?_) (fun c_8 => ?_)
              · refine lv_iconst (v := nI 0) hx hb dX3_canBe_57 (by decide) ?_
                exact bn_rotz hx hb hr hlocks (by rw [decide_eq_false (show ¬ bc_cbC nv x y z from fun w => by obtain ⟨w1, w2, w3, w4, w5, w6, w7⟩ := w; exact w7 c_8)]; rfl) (by decide) dX3_canBe_58
              · refine lv_iconst (v := nI 1) hx hb dX3_canBe_53 (by decide) ?_
                refine lv_goto (tgt := 58) hx hb dX3_canBe_54 (by decide) ?_
                exact bn_rotz hx hb hr hlocks (by rw [decide_eq_true (show bc_cbC nv x y z from ⟨c_1, c_2, c_4, c_5, c_6, c_7, c_8⟩)]; rfl) (by decide) dX3_canBe_58
    · refine lv_iconst (v := nI 0) hx hb dX3_canBe_15 (by decide) ?_
      exact bn_rotz hx hb hr hlocks (by rw [decide_eq_false (show ¬ bc_cbC nv x y z from fun w => by obtain ⟨w1, w2, w3, w4, w5, w6, w7⟩ := w; exact c_2 w2)]; rfl) (by decide) dX3_canBe_16
set_option maxHeartbeats 4000000 in
set_option maxRecDepth 100000 in
theorem cc_membersFrom (l : Launch) (D : va_G) (c : bh_C) (h : Nat) (ad : Nat → Nat) (ba : Nat → Nat → Nat) (nv km : Nat) (C : cS) (f : Nat) (hf : 1 ≤ f ∧ f ≤ 25) (hk24 : km ≤ 24) : Met l yX3_membersFrom wsX3_membersFrom ({ frames := 1, cells := 0, slots := 0, locals := 21 }) (va_Pc [.ref h, .int (nI f)] (bh_pre D c (bh_cw h ad ba c nv km (C)))) (vp_Si (fun r => r = bc_mfL C f (km + 1 - f))) 0 0 (fun _ => False) := by
  refine Met.ofW (cc := cX3_membersFrom) (maxL := 5) (ret := (some .int)) (by decide) rfl ?_
  intro p e s m args below meth c0 s₁ B hml hv
  obtain ⟨rfl, hP, hK, hD0⟩ := hv
  have hx := B.exec
  have hb := B.bytes
  have hr := B.returns
  have hts := atoms_spec (ws := wsX3_membersFrom) B.pre
  have hown : s.vm.findClass RX3 = some m.cls := findClass_of_methodNamed B.named
  have hlocks := B.notSynchronized
  have hinX3 : ∀ w ∈ wsX30, w ∈ wsX3_membersFrom := fun _ h => List.mem_cons_of_mem _ (List.mem_append_left _ (List.mem_append_right _ h))
  have hinX1 : ∀ w ∈ wsX10, w ∈ wsX3_membersFrom := fun _ h => List.mem_cons_of_mem _ (List.mem_append_right _ h)
  have lk_43 : (Cond.fieldLink RX3 43 "BallotHouse" "made" "I").before _ s = true := hts _ (by decide +kernel)
  have lk_84 : (Cond.fieldLink RX3 84 "BallotHouse$Ballot" "members" "I").before _ s = true := hts _ (by decide +kernel)
  have hI : bh_I D (bh_cw h ad ba c nv km (C)) (fun _ => True) s.heap s.heap [] := ⟨hP, hD0, va_S.rf⟩
  have hl := lv_entry ([.ref h, .int (nI f)]) (n := 5) (Nat.le_of_ble_eq_true rfl)
  rw [lg_entry_eq]
  generalize (lg_sl ([.ref h, .int (nI f)]) ++ List.replicate (5 - (lg_sl ([.ref h, .int (nI f)])).length) Slot.unset).toArray = ls at hl ⊢
  have hl : lv_has ls 5 [(0, .ref h), (1, .int (nI f))] := hl
  refine lv_iconst (v := nI 0) hx hb dX3_membersFrom_0 (by decide) ?_
  refine lv_istore_n (lv' := [(2, .int (nI 0)), (0, .ref h), (1, .int (nI f))]) hx hb dX3_membersFrom_1 rfl hl (by decide) rfl (fun ls hl => ?_)
  refine lv_iload_n hx hb dX3_membersFrom_2 rfl (lv_at hl 2 rfl) ?_
  refine lv_istore_n (lv' := [(3, .int (nI f)), (2, .int (nI 0)), (0, .ref h), (1, .int (nI f))]) hx hb dX3_membersFrom_3 rfl hl (by decide) rfl (fun ls hl => ?_)
  refine bh_loop (σ := Nat) (fun (d : Nat) H locs ls => H = s.heap ∧ locs = [] ∧ d ≤ km + 1 - f ∧ lv_has ls 5 [(3, .int (nI (f + d))), (2, .int (bc_mfL C f d)), (0, .ref h), (1, .int (nI f))]) (fun (d : Nat) => km + 1 - f - d) (fun d H locs ls hx_1 ih_1 => ?_) 0 _ _ _ ⟨rfl, rfl, Nat.zero_le _, lv_sub hl [0, 1, 2, 3] rfl⟩
  clear hl
  obtain ⟨rfl, rfl, hd, hl⟩ := hx_1
  refine lv_iload_n hx hb dX3_membersFrom_4 rfl (lv_at hl 0 rfl) ?_
  refine lv_aload_n hx hb dX3_membersFrom_5 rfl (lv_at hl 2 rfl) ?_
  refine bn_get (ci := 2) (v := .int (nI km)) (C := RX3) (T := TX3) (N := 8) hx hb hts hinX3 hown hK hI 0 rfl rfl 5 (by decide) lk_43 rfl (rfl) dX3_membersFrom_6 ?_
  refine bn_cmp_gt (tgt := 38) hx hb (by omega) (by omega) dX3_membersFrom_9 (by decide) (fun c_2 => ?_) (fun c_2 => ?_)
  · refine lv_iload_n hx hb dX3_membersFrom_38 rfl (lv_at hl 1 rfl) ?_
    exact bn_roti hx hb hr hlocks (by rw [show d = km + 1 - f by omega]) dX3_membersFrom_39
  · obtain ⟨j_, hj_, hj_1, hj_2⟩ : ∃ j, j = f + d ∧ 1 ≤ j ∧ j ≤ km := ⟨_, rfl, by omega, by omega⟩
    rw [← hj_] at hl
    refine lv_aload_n hx hb dX3_membersFrom_12 rfl (lv_at hl 2 rfl) ?_
    refine lv_iload_n hx hb dX3_membersFrom_13 rfl (lv_at hl 0 rfl) ?_
    refine va_csq (bn_roV (As := [.int (nI j_)]) (rest := []) ⟨hx, hb, hml, hown, hts⟩ (cc_find l D c h ad ba nv km (C) (j_) (hj_1) (hj_2) hk24) (cwV 1 hts gX3_membersFrom_X3_find rfl rfl rfl (by decide +kernel) ⟨Nat.le_of_ble_eq_true rfl, Nat.le_of_ble_eq_true rfl⟩) hK hI 0 2 rfl rfl rfl rfl hl.1 (Nat.le_of_ble_eq_true rfl) dX3_membersFrom_14 ⟨Nat.le_of_ble_eq_true rfl, Nat.le_of_ble_eq_true rfl⟩) (fun r_3 er_3 => ?_)
    subst er_3
    refine lv_astore (lv' := [(4, .ref (ba j_ 0)), (3, .int (nI j_)), (2, .int (bc_mfL C f d)), (0, .ref h), (1, .int (nI f))]) hx hb dX3_membersFrom_17 hl (by decide) rfl (fun ls hl => ?_)
    refine lv_aload hx hb dX3_membersFrom_19 (lv_at hl 0 rfl) ?_
    refine lv_ifnull hx hb dX3_membersFrom_21 ?_
    refine lv_iload_n hx hb dX3_membersFrom_24 rfl (lv_at hl 2 rfl) ?_
    refine lv_aload hx hb dX3_membersFrom_25 (lv_at hl 0 rfl) ?_
    refine bn_get (ci := 1) (v := .int (C.2.1 1 j_)) (C := RX1) (T := TX1) (N := 14) hx hb hts hinX1 hown hK hI (10 + (5 * (j_ - 1) + 0)) ((bh_cw_b hj_1 hj_2 0 (by decide)).trans rfl) rfl 1 (by decide) lk_84 rfl (rfl) dX3_membersFrom_27 ?_
    refine lv_ior hx hb dX3_membersFrom_30 ?_
    refine lv_istore_n (lv' := [(2, .int ((bc_mfL C f d) ||| (C.2.1 1 j_))), (4, .ref (ba j_ 0)), (3, .int (nI j_)), (0, .ref h), (1, .int (nI f))]) hx hb dX3_membersFrom_31 rfl hl (by decide) rfl (fun ls hl => ?_)
    refine lv_iinc (v := nI (j_ + 1)) (lv' := [(3, .int (nI (j_ + 1))), (2, .int ((bc_mfL C f d) ||| (C.2.1 1 j_))), (4, .ref (ba j_ 0)), (0, .ref h), (1, .int (nI f))]) hx hb dX3_membersFrom_32 hl (k := 2) rfl (nI_1 _) (by decide) rfl (fun ls hl => ?_)
    refine lv_goto (tgt := 4) hx hb dX3_membersFrom_35 (by decide) ?_
    exact ih_1 (d + 1) _ _ _ ⟨rfl, rfl, by omega, (by rw [show f + (d + 1) = j_ + 1 by omega, show bc_mfL C f (d + 1) = bc_mfL C f d ||| C.2.1 1 j_ by rw [hj_]; rfl]; exact (lv_sub hl [0, 1, 3, 4] rfl))⟩ (by show km + 1 - f - (d + 1) < km + 1 - f - d; omega)
set_option maxHeartbeats 4000000 in
set_option maxRecDepth 100000 in
theorem cc_firstThatChose (l : Launch) (D : va_G) (c : bh_C) (h : Nat) (ad : Nat → Nat) (ba : Nat → Nat → Nat) (nv km : Nat) (C : cS) (x : Int32) (hk24 : km ≤ 24) : Met l yX3_firstThatChose wsX3_firstThatChose ({ frames := 2, cells := 0, slots := 0, locals := 41 }) (va_Pc [.ref h, .int (x)] (bh_pre D c (bh_cw h ad ba c nv km (C)))) (va_Sq (fun r => r = bc_ftc C km ba x)) 0 0 (fun _ => False) := by
  refine Met.ofW (cc := cX3_firstThatChose) (maxL := 4) (ret := (some (.object "BallotHouse$Ballot"))) (by decide) rfl ?_
  intro p e s m args below meth c0 s₁ B hml hv
  obtain ⟨rfl, hP, hK, hD0⟩ := hv
  have hx := B.exec
  have hb := B.bytes
  have hr := B.returns
  have hts := atoms_spec (ws := wsX3_firstThatChose) B.pre
  have hown : s.vm.findClass RX3 = some m.cls := findClass_of_methodNamed B.named
  have hlocks := B.notSynchronized
  have hinX3 : ∀ w ∈ wsX30, w ∈ wsX3_firstThatChose := fun _ h => List.mem_cons_of_mem _ (List.mem_append_left _ (List.mem_append_right _ h))
  have hinX1 : ∀ w ∈ wsX10, w ∈ wsX3_firstThatChose := fun _ h => List.mem_cons_of_mem _ (List.mem_append_right _ h)
  have lk_43 : (Cond.fieldLink RX3 43 "BallotHouse" "made" "I").before _ s = true := hts _ (by decide +kernel)
  have hI : bh_I D (bh_cw h ad ba c nv km (C)) (fun _ => True) s.heap s.heap [] := ⟨hP, hD0, va_S.rf⟩
  have hl := lv_entry ([.ref h, .int (x)]) (n := 4) (Nat.le_of_ble_eq_true rfl)
  rw [lg_entry_eq]
  generalize (lg_sl ([.ref h, .int (x)]) ++ List.replicate (4 - (lg_sl ([.ref h, .int (x)])).length) Slot.unset).toArray = ls at hl ⊢
  have hl : lv_has ls 4 [(0, .ref h), (1, .int (x))] := hl
  rcases hx1 : bh_ix x 8 with _ | q
  · refine lv_iload_n hx hb dX3_firstThatChose_0 rfl (lv_at hl 1 rfl) ?_
    refine vp_callSi (bn_roS (As := [.int (x)]) (rest := []) ⟨hx, hb, hml, hown, hts⟩ (cc_isPlace l (x)) (va_cwS 1 hts gX3_firstThatChose_X3_isPlace rfl rfl rfl (by decide +kernel) ⟨Nat.le_of_ble_eq_true rfl, Nat.le_of_ble_eq_true rfl⟩) rfl hl.1 (Nat.le_of_ble_eq_true rfl) dX3_firstThatChose_1 ⟨Nat.le_of_ble_eq_true rfl, Nat.le_of_ble_eq_true rfl⟩) (fun r_1 er_1 => ?_)
    obtain rfl : r_1 = nI 0 := by rw [er_1, hx1]; rfl
    refine lv_if_ne (tgt := 9) hx hb dX3_firstThatChose_4 (by decide) (fun c_2 => ?_) (fun c_2 => ?_)
    · first | exact absurd c_2 (by decide) | exact absurd (by decide) c_2
    · refine lv_null hx hb dX3_firstThatChose_7 ?_
      exact bn_rota (r := none) hx hb hr hlocks rfl (by unfold bc_ftc; rw [hx1]) dX3_firstThatChose_8
  · obtain ⟨hq, rfl⟩ := bh_ix_some hx1
    refine lv_iload_n hx hb dX3_firstThatChose_0 rfl (lv_at hl 1 rfl) ?_
    refine vp_callSi (bn_roS (As := [.int (nI q)]) (rest := []) ⟨hx, hb, hml, hown, hts⟩ (cc_isPlace l (nI q)) (va_cwS 1 hts gX3_firstThatChose_X3_isPlace rfl rfl rfl (by decide +kernel) ⟨Nat.le_of_ble_eq_true rfl, Nat.le_of_ble_eq_true rfl⟩) rfl hl.1 (Nat.le_of_ble_eq_true rfl) dX3_firstThatChose_1 ⟨Nat.le_of_ble_eq_true rfl, Nat.le_of_ble_eq_true rfl⟩) (fun r_3 er_3 => ?_)
    obtain rfl : r_3 = nI 1 := by rw [er_3, hx1]; rfl
    refine lv_if_ne (tgt := 9) hx hb dX3_firstThatChose_4 (by decide) (fun c_4 => ?_) (fun c_4 => ?_)
    · refine lv_iconst (v := nI 1) hx hb dX3_firstThatChose_9 (by decide) ?_
      refine lv_istore_n (lv' := [(2, .int (nI 1)), (0, .ref h), (1, .int (nI q))]) hx hb dX3_firstThatChose_10 rfl hl (by decide) rfl (fun ls hl => ?_)
      refine bh_loop (σ := Nat) (fun (b : Nat) H locs ls => H = s.heap ∧ locs = [] ∧ 1 ≤ b ∧ b ≤ km + 1 ∧ bc_chL C q (km + 1 - b) b = bc_ch C km q ∧ lv_has ls 4 [(2, .int (nI b)), (0, .ref h), (1, .int (nI q))]) (fun (b : Nat) => km + 1 - b) (fun b H locs ls hx_5 ih_5 => ?_) 1 _ _ _ ⟨rfl, rfl, Nat.le_refl 1, by omega, rfl, lv_sub hl [0, 1, 2] rfl⟩
      clear hl
      obtain ⟨rfl, rfl, hb1, hb3, hch, hl⟩ := hx_5
      refine lv_iload_n hx hb dX3_firstThatChose_11 rfl (lv_at hl 0 rfl) ?_
      refine lv_aload_n hx hb dX3_firstThatChose_12 rfl (lv_at hl 1 rfl) ?_
      refine bn_get (ci := 2) (v := .int (nI km)) (C := RX3) (T := TX3) (N := 8) hx hb hts hinX3 hown hK hI 0 rfl rfl 5 (by decide) lk_43 rfl (rfl) dX3_firstThatChose_13 ?_
      refine bn_cmp_gt (tgt := 45) hx hb (by omega) (by omega) dX3_firstThatChose_16 (by decide) (fun c_6 => ?_) (fun c_6 => ?_)
      · refine lv_null hx hb dX3_firstThatChose_45 ?_
        exact bn_rota (r := none) hx hb hr hlocks rfl (by unfold bc_ftc; rw [hx1]; show _ = (bc_ch C km q).map _; rw [← hch, show km + 1 - b = 0 by omega]; rfl) dX3_firstThatChose_46
      · have hb2 : b ≤ km := by omega
        refine lv_aload_n hx hb dX3_firstThatChose_19 rfl (lv_at hl 1 rfl) ?_
        refine lv_iload_n hx hb dX3_firstThatChose_20 rfl (lv_at hl 0 rfl) ?_
        refine va_csq (bn_roV (As := [.int (nI b)]) (rest := []) ⟨hx, hb, hml, hown, hts⟩ (cc_find l D c h ad ba nv km (C) (b) (hb1) (hb2) hk24) (cwV 1 hts gX3_firstThatChose_X3_find rfl rfl rfl (by decide +kernel) ⟨Nat.le_of_ble_eq_true rfl, Nat.le_of_ble_eq_true rfl⟩) hK hI 0 2 rfl rfl rfl rfl hl.1 (Nat.le_of_ble_eq_true rfl) dX3_firstThatChose_21 ⟨Nat.le_of_ble_eq_true rfl, Nat.le_of_ble_eq_true rfl⟩) (fun r_7 er_7 => ?_)
        subst er_7
        refine lv_astore_n (lv' := [(3, .ref (ba b 0)), (2, .int (nI b)), (0, .ref h), (1, .int (nI q))]) hx hb dX3_firstThatChose_24 rfl hl (by decide) rfl (fun ls hl => ?_)
        refine lv_aload_n hx hb dX3_firstThatChose_25 rfl (lv_at hl 0 rfl) ?_
        refine lv_ifnull hx hb dX3_firstThatChose_26 ?_
        refine lv_aload_n hx hb dX3_firstThatChose_29 rfl (lv_at hl 0 rfl) ?_
        refine lv_iload_n hx hb dX3_firstThatChose_30 rfl (lv_at hl 3 rfl) ?_
        refine vp_callSi (bn_roV (As := [.int (nI q)]) (rest := []) ⟨hx, hb, hml, hown, hts⟩ (cc_hasChosen l D c h ad ba nv km C b hb1 hb2 q hq) (cwV 1 hts gX3_firstThatChose_X1_hasChosen rfl rfl rfl (by decide +kernel) ⟨Nat.le_of_ble_eq_true rfl, Nat.le_of_ble_eq_true rfl⟩) hK hI (10 + (5 * (b - 1) + 0)) 1 rfl rfl ((bh_cw_b hb1 hb2 0 (by decide)).trans rfl) rfl hl.1 (Nat.le_of_ble_eq_true rfl) dX3_firstThatChose_31 ⟨Nat.le_of_ble_eq_true rfl, Nat.le_of_ble_eq_true rfl⟩) (fun r_8 er_8 => ?_)
        subst er_8
        refine lv_if_eq (tgt := 39) hx hb dX3_firstThatChose_34 (by decide) (fun c_9 => ?_) (fun c_9 => ?_)
        · have q_1 := c_9
          refine lv_iinc (v := nI (b + 1)) (lv' := [(2, .int (nI (b + 1))), (3, .ref (ba b 0)), (0, .ref h), (1, .int (nI q))]) hx hb dX3_firstThatChose_39 hl (k := 1) rfl (nI_1 _) (by decide) rfl (fun ls hl => ?_)
          refine lv_goto (tgt := 11) hx hb dX3_firstThatChose_42 (by decide) ?_
          exact ih_5 (b + 1) _ _ _ ⟨rfl, rfl, by omega, by omega, by rw [← hch, show km + 1 - b = (km + 1 - (b + 1)) + 1 by omega]; exact (if_neg (by rw [bh_tf_eq q_1]; decide)).symm, lv_sub hl [0, 2, 3] rfl⟩ (by show km + 1 - (b + 1) < km + 1 - b; omega)
        · have q_1 := bh_tf_ne c_9
          refine lv_aload_n hx hb dX3_firstThatChose_37 rfl (lv_at hl 0 rfl) ?_
          exact bn_rota (r := some (ba b 0)) hx hb hr hlocks rfl (by unfold bc_ftc; rw [hx1]; show _ = (bc_ch C km q).map _; rw [← hch, show km + 1 - b = (km - b) + 1 by omega, show bc_chL C q (km - b + 1) b = some b from if_pos q_1]; rfl) dX3_firstThatChose_38
    · first | exact absurd c_4 (by decide) | exact absurd (by decide) c_4
set_option maxHeartbeats 4000000 in
set_option maxRecDepth 100000 in
theorem cc_sendToEach (l : Launch) (D : va_G) (c : bh_C) (h : Nat) (ad : Nat → Nat) (ba : Nat → Nat → Nat) (nv km : Nat) (sz : Nat) (C : cS) (rc kd : Int32) (b : Nat) (hb1 : 1 ≤ b) (hb2 : b ≤ km) (pl : Int32) (ha : C.1.1 15 ≤ 400) (hn : nv ≤ 7) : Met l yX3_sendToEach wsX3_sendToEach ({ frames := 1, cells := 0, slots := 0, locals := 26 }) (va_Pc [.ref h, .int (rc), .int (kd), .ref (ba b 0), .int (pl)] (bh_prm D c (bh_cw h ad ba c nv km (C)) sz)) (va_Qi (fun (r : Int32) (u : cS) => r = bh_bc rc ∧ u = bc_seL C rc kd b pl nv) (fun u t => bh_post D c (bh_cw h ad ba c nv km u) (va_A (bh_cw h ad ba c nv km (C)) sz) t) (va_A (bh_cw h ad ba c nv km (C)) sz)) 0 0 (va_A (bh_cw h ad ba c nv km (C)) sz) := by
  refine Met.ofW (cc := cX3_sendToEach) (maxL := 6) (ret := (some .int)) (by decide) rfl ?_
  intro p e s m args below meth c0 s₁ B hml hv
  obtain ⟨rfl, hsz, hP, hK, hD0⟩ := hv
  have hx := B.exec
  have hb := B.bytes
  have hr := B.returns
  have hts := atoms_spec (ws := wsX3_sendToEach) B.pre
  have hown : s.vm.findClass RX3 = some m.cls := findClass_of_methodNamed B.named
  have hlocks := B.notSynchronized
  have hinX3 : ∀ w ∈ wsX30, w ∈ wsX3_sendToEach := fun _ h => List.mem_cons_of_mem _ (List.mem_append_left _ (List.mem_append_left _ (List.mem_append_right _ h)))
  have hinX1 : ∀ w ∈ wsX10, w ∈ wsX3_sendToEach := fun _ h => List.mem_cons_of_mem _ (List.mem_append_left _ (List.mem_append_right _ h))
  have hinX0 : ∀ w ∈ wsX00, w ∈ wsX3_sendToEach := fun _ h => List.mem_cons_of_mem _ (List.mem_append_right _ h)
  have lk_18 : (Cond.fieldLink RX3 18 "BallotHouse" "voters" "I").before _ s = true := hts _ (by decide +kernel)
  have lk_39 : (Cond.fieldLink RX3 39 "BallotHouse" "letters" "LBallotHouse$Air;").before _ s = true := hts _ (by decide +kernel)
  have lk_91 : (Cond.fieldLink RX3 91 "BallotHouse$Ballot" "number" "I").before _ s = true := hts _ (by decide +kernel)
  subst hsz
  have hI := bh_start hP hD0
  generalize hAe : va_A (bh_cw h ad ba c nv km (C)) s.heap.size = A at hI ⊢
  have hA : ∀ q : Nat, s.heap.size ≤ q → A q := fun q h => by rw [← hAe]; exact Or.inr h
  clear hP hD0 hAe
  have hl := lv_entry ([.ref h, .int (rc), .int (kd), .ref (ba b 0), .int (pl)]) (n := 6) (Nat.le_of_ble_eq_true rfl)
  rw [lg_entry_eq]
  generalize (lg_sl ([.ref h, .int (rc), .int (kd), .ref (ba b 0), .int (pl)]) ++ List.replicate (6 - (lg_sl ([.ref h, .int (rc), .int (kd), .ref (ba b 0), .int (pl)])).length) Slot.unset).toArray = ls at hl ⊢
  have hl : lv_has ls 6 [(0, .ref h), (1, .int (rc)), (2, .int (kd)), (3, .ref (ba b 0)), (4, .int (pl))] := hl
  refine lv_iconst (v := nI 0) hx hb dX3_sendToEach_0 (by decide) ?_
  refine lv_istore (lv' := [(5, .int (nI 0)), (0, .ref h), (1, .int (rc)), (2, .int (kd)), (3, .ref (ba b 0)), (4, .int (pl))]) hx hb dX3_sendToEach_1 hl (by decide) rfl (fun ls hl => ?_)
  refine bh_loop (σ := Nat) (fun (v : Nat) H locs ls => v ≤ nv ∧ bh_I D (bh_cw h ad ba c nv km (bc_seL C rc kd b pl v)) A s.heap H locs ∧ lv_has ls 6 [(5, .int (nI v)), (0, .ref h), (1, .int (rc)), (2, .int (kd)), (3, .ref (ba b 0)), (4, .int (pl))]) (fun (v : Nat) => nv - v) (fun v H locs ls hx_1 ih_1 => ?_) 0 _ _ _ ⟨Nat.zero_le _, hI, lv_sub hl [0, 1, 2, 3, 4, 5] rfl⟩
  clear hl hI
  obtain ⟨hv, hI, hl⟩ := hx_1
  refine lv_iload hx hb dX3_sendToEach_3 (lv_at hl 0 rfl) ?_
  refine lv_aload_n hx hb dX3_sendToEach_5 rfl (lv_at hl 1 rfl) ?_
  refine bn_get (ci := 2) (v := .int (nI nv)) (C := RX3) (T := TX3) (N := 8) hx hb hts hinX3 hown hK hI 0 rfl rfl 0 (by decide) lk_18 rfl (rfl) dX3_sendToEach_6 ?_
  refine bn_cmp_ge (tgt := 44) hx hb (by omega) (by omega) dX3_sendToEach_9 (by decide) (fun c_2 => ?_) (fun c_2 => ?_)
  · refine lv_iload_n hx hb dX3_sendToEach_44 rfl (lv_at hl 2 rfl) ?_
    refine vp_callSi (bn_roS (As := [.int (rc)]) (rest := []) ⟨hx, hb, hml, hown, hts⟩ (cc_bitCount l (rc)) (va_cwS 1 hts gX3_sendToEach_J6_bitCount_0f7a4 rfl rfl rfl (by decide +kernel) ⟨Nat.le_of_ble_eq_true rfl, Nat.le_of_ble_eq_true rfl⟩) rfl hl.1 (Nat.le_of_ble_eq_true rfl) dX3_sendToEach_45 ⟨Nat.le_of_ble_eq_true rfl, Nat.le_of_ble_eq_true rfl⟩) (fun r_3 er_3 => ?_)
    subst er_3
    exact bn_reti hx hb hr hlocks hK (bc_seL C rc kd b pl v) hI (⟨rfl, by rw [show v = nv by omega]⟩) dX3_sendToEach_48
  · refine lv_iload_n hx hb dX3_sendToEach_12 rfl (lv_at hl 2 rfl) ?_
    refine lv_iconst (v := nI 1) hx hb dX3_sendToEach_13 (by decide) ?_
    refine lv_iload hx hb dX3_sendToEach_14 (lv_at hl 0 rfl) ?_
    refine lv_ishl hx hb dX3_sendToEach_16 ?_
    refine lv_iand hx hb dX3_sendToEach_17 ?_
    refine lv_if_eq (tgt := 38) hx hb dX3_sendToEach_18 (by decide) (fun c_4 => ?_) (fun c_4 => ?_)
    · have q_1 : rc &&& bh_bit v = 0 := c_4
      refine lv_iinc (v := nI (v + 1)) (lv' := [(5, .int (nI (v + 1))), (0, .ref h), (1, .int (rc)), (2, .int (kd)), (3, .ref (ba b 0)), (4, .int (pl))]) hx hb dX3_sendToEach_38 hl (k := 0) rfl (nI_1 _) (by decide) rfl (fun ls hl => ?_)
      refine lv_goto (tgt := 3) hx hb dX3_sendToEach_41 (by decide) ?_
      exact ih_1 (v + 1) _ _ _ ⟨by omega, (by rw [show bc_seL C rc kd b pl (v + 1) = _ from if_pos q_1]; exact hI), lv_sub hl [0, 1, 2, 3, 4, 5] rfl⟩ (by show nv - (v + 1) < nv - v; omega)
    · have q_1 : ¬ rc &&& bh_bit v = 0 := c_4
      refine lv_aload_n hx hb dX3_sendToEach_21 rfl (lv_at hl 1 rfl) ?_
      refine bn_get (ci := 2) (v := .ref (ad 7)) (C := RX3) (T := TX3) (N := 8) hx hb hts hinX3 hown hK hI 0 rfl rfl 7 (by decide) lk_39 rfl (rfl) dX3_sendToEach_22 ?_
      refine lv_iload_n hx hb dX3_sendToEach_25 rfl (lv_at hl 3 rfl) ?_
      refine lv_aload_n hx hb dX3_sendToEach_26 rfl (lv_at hl 4 rfl) ?_
      refine bn_get (ci := 1) (v := .int (nI b)) (C := RX1) (T := TX1) (N := 14) hx hb hts hinX1 hown hK hI (10 + (5 * (b - 1) + 0)) ((bh_cw_b hb1 hb2 0 (by decide)).trans rfl) rfl 0 (by decide) lk_91 rfl (rfl) dX3_sendToEach_27 ?_
      refine lv_iload hx hb dX3_sendToEach_30 (lv_at hl 0 rfl) ?_
      refine lv_iload hx hb dX3_sendToEach_32 (lv_at hl 5 rfl) ?_
      refine lv_lconst (v := 0) hx hb dX3_sendToEach_34 (by decide) ?_
      refine bn_muv (bn_muV (As := [.int (kd), .int (nI b), .int (nI v), .int (pl), .long (0)]) (rest := []) ⟨hx, hb, hml, hown, hts⟩ (cc_send l D c h ad ba nv km _ (bc_seL C rc kd b pl v) (kd) (nI b) (nI v) (pl) (0) (bc_seL_le ha rc kd b pl v)) (cwV 5 hts gX3_sendToEach_X0_send rfl rfl rfl (by decide +kernel) ⟨Nat.le_of_ble_eq_true rfl, Nat.le_of_ble_eq_true rfl⟩) hK hI 4 0 rfl rfl rfl rfl hl.1 (Nat.le_of_ble_eq_true rfl) dX3_sendToEach_35 ⟨Nat.le_of_ble_eq_true rfl, Nat.le_of_ble_eq_true rfl⟩) hI hA (fun u_5 H locs eu_5 hI => ?_)
      subst eu_5
      refine lv_iinc (v := nI (v + 1)) (lv' := [(5, .int (nI (v + 1))), (0, .ref h), (1, .int (rc)), (2, .int (kd)), (3, .ref (ba b 0)), (4, .int (pl))]) hx hb dX3_sendToEach_38 hl (k := 0) rfl (nI_1 _) (by decide) rfl (fun ls hl => ?_)
      refine lv_goto (tgt := 3) hx hb dX3_sendToEach_41 (by decide) ?_
      exact ih_1 (v + 1) _ _ _ ⟨by omega, (by rw [show bc_seL C rc kd b pl (v + 1) = _ from if_neg q_1]; exact hI), lv_sub hl [0, 1, 2, 3, 4, 5] rfl⟩ (by show nv - (v + 1) < nv - v; omega)
set_option maxHeartbeats 4000000 in
set_option maxRecDepth 100000 in
theorem cc_sendMissingVotes (l : Launch) (D : va_G) (c : bh_C) (h : Nat) (ad : Nat → Nat) (ba : Nat → Nat → Nat) (nv km : Nat) (sz : Nat) (C : cS) (b : Nat) (hb1 : 1 ≤ b) (hb2 : b ≤ km) (ha : C.1.1 15 ≤ 400) (hn : nv ≤ 7) : Met l yX3_sendMissingVotes wsX3_sendMissingVotes ({ frames := 2, cells := 0, slots := 0, locals := 51 }) (va_Pc [.ref h, .ref (ba b 0)] (bh_prm D c (bh_cw h ad ba c nv km (C)) sz)) (va_Qi (fun (r : Int32) (u : cS) => r = (bc_smL C nv b 8).1 ∧ u = (bc_smL C nv b 8).2) (fun u t => bh_post D c (bh_cw h ad ba c nv km u) (va_A (bh_cw h ad ba c nv km (C)) sz) t) (va_A (bh_cw h ad ba c nv km (C)) sz)) 0 0 (va_A (bh_cw h ad ba c nv km (C)) sz) := by
  refine Met.ofW (cc := cX3_sendMissingVotes) (maxL := 4) (ret := (some .int)) (by decide) rfl ?_
  intro p e s m args below meth c0 s₁ B hml hv
  obtain ⟨rfl, hsz, hP, hK, hD0⟩ := hv
  have hx := B.exec
  have hb := B.bytes
  have hr := B.returns
  have hts := atoms_spec (ws := wsX3_sendMissingVotes) B.pre
  have hown : s.vm.findClass RX3 = some m.cls := findClass_of_methodNamed B.named
  have hlocks := B.notSynchronized
  have hinX1 : ∀ w ∈ wsX10, w ∈ wsX3_sendMissingVotes := fun _ h => List.mem_cons_of_mem _ (List.mem_append_left _ (List.mem_append_left _ (List.mem_append_right _ h)))
  have hinX3 : ∀ w ∈ wsX30, w ∈ wsX3_sendMissingVotes := fun _ h => List.mem_cons_of_mem _ (List.mem_append_left _ (List.mem_append_right _ h))
  have hinX0 : ∀ w ∈ wsX00, w ∈ wsX3_sendMissingVotes := fun _ h => List.mem_cons_of_mem _ (List.mem_append_right _ h)
  have lk_84 : (Cond.fieldLink RX3 84 "BallotHouse$Ballot" "members" "I").before _ s = true := hts _ (by decide +kernel)
  have lk_154 : (Cond.fieldLink RX3 154 "BallotHouse$Ballot" "voteAnswers" "[I").before _ s = true := hts _ (by decide +kernel)
  subst hsz
  have hI := bh_start hP hD0
  generalize hAe : va_A (bh_cw h ad ba c nv km (C)) s.heap.size = A at hI ⊢
  have hA : ∀ q : Nat, s.heap.size ≤ q → A q := fun q h => by rw [← hAe]; exact Or.inr h
  clear hP hD0 hAe
  have hl := lv_entry ([.ref h, .ref (ba b 0)]) (n := 4) (Nat.le_of_ble_eq_true rfl)
  rw [lg_entry_eq]
  generalize (lg_sl ([.ref h, .ref (ba b 0)]) ++ List.replicate (4 - (lg_sl ([.ref h, .ref (ba b 0)])).length) Slot.unset).toArray = ls at hl ⊢
  have hl : lv_has ls 4 [(0, .ref h), (1, .ref (ba b 0))] := hl
  refine lv_iconst (v := nI 0) hx hb dX3_sendMissingVotes_0 (by decide) ?_
  refine lv_istore_n (lv' := [(2, .int (nI 0)), (0, .ref h), (1, .ref (ba b 0))]) hx hb dX3_sendMissingVotes_1 rfl hl (by decide) rfl (fun ls hl => ?_)
  refine lv_iconst (v := nI 0) hx hb dX3_sendMissingVotes_2 (by decide) ?_
  refine lv_istore_n (lv' := [(3, .int (nI 0)), (2, .int (nI 0)), (0, .ref h), (1, .ref (ba b 0))]) hx hb dX3_sendMissingVotes_3 rfl hl (by decide) rfl (fun ls hl => ?_)
  refine bh_loop (σ := Nat) (fun (q : Nat) H locs ls => q ≤ 8 ∧ bh_I D (bh_cw h ad ba c nv km ((bc_smL C nv b q).2)) A s.heap H locs ∧ lv_has ls 4 [(3, .int (nI q)), (2, .int ((bc_smL C nv b q).1)), (0, .ref h), (1, .ref (ba b 0))]) (fun (q : Nat) => 8 - q) (fun q H locs ls hx_1 ih_1 => ?_) 0 _ _ _ ⟨Nat.zero_le 8, hI, lv_sub hl [0, 1, 2, 3] rfl⟩
  clear hl hI
  obtain ⟨hq, hI, hl⟩ := hx_1
  have h2_ := bc_smL_2 C nv b q
  have hle := bc_smL_le ha nv b q
  refine lv_iload_n hx hb dX3_sendMissingVotes_4 rfl (lv_at hl 0 rfl) ?_
  refine lv_bipush (v := nI 8) hx hb dX3_sendMissingVotes_5 (by decide) ?_
  refine bn_cmp_ge (tgt := 55) hx hb (by omega) (by omega) dX3_sendMissingVotes_7 (by decide) (fun c_2 => ?_) (fun c_2 => ?_)
  · refine lv_iload_n hx hb dX3_sendMissingVotes_55 rfl (lv_at hl 1 rfl) ?_
    exact bn_reti hx hb hr hlocks hK ((bc_smL C nv b q).2) hI (by rw [show q = 8 by omega]; exact ⟨rfl, rfl⟩) dX3_sendMissingVotes_56
  · refine lv_aload_n hx hb dX3_sendMissingVotes_10 rfl (lv_at hl 3 rfl) ?_
    refine lv_iload_n hx hb dX3_sendMissingVotes_11 rfl (lv_at hl 0 rfl) ?_
    refine vp_callSi (bn_roV (As := [.int (nI q)]) (rest := []) ⟨hx, hb, hml, hown, hts⟩ (cc_hasWord l D c h ad ba nv km (bc_smL C nv b q).2 b hb1 hb2 q) (cwV 1 hts gX3_sendMissingVotes_X1_hasWord rfl rfl rfl (by decide +kernel) ⟨Nat.le_of_ble_eq_true rfl, Nat.le_of_ble_eq_true rfl⟩) hK hI (10 + (5 * (b - 1) + 0)) 1 rfl rfl ((bh_cw_b hb1 hb2 0 (by decide)).trans rfl) rfl hl.1 (Nat.le_of_ble_eq_true rfl) dX3_sendMissingVotes_12 ⟨Nat.le_of_ble_eq_true rfl, Nat.le_of_ble_eq_true rfl⟩) (fun r_3 er_3 => ?_)
    rw [bc_hw_2 h2_] at er_3
    subst er_3
    refine lv_if_eq (tgt := 49) hx hb dX3_sendMissingVotes_15 (by decide) (fun c_4 => ?_) (fun c_4 => ?_)
    · have q_1 := bh_tf_eq c_4
      refine lv_iinc (v := nI (q + 1)) (lv' := [(3, .int (nI (q + 1))), (2, .int ((bc_smL C nv b q).1)), (0, .ref h), (1, .ref (ba b 0))]) hx hb dX3_sendMissingVotes_49 hl (k := 0) rfl (nI_1 _) (by decide) rfl (fun ls hl => ?_)
      refine lv_goto (tgt := 4) hx hb dX3_sendMissingVotes_52 (by decide) ?_
      exact ih_1 (q + 1) _ _ _ ⟨by omega, (by rw [show bc_smL C nv b (q + 1) = _ from if_neg (fun w => by rw [q_1] at w; exact absurd w.1 (by decide))]; exact hI), (by rw [show bc_smL C nv b (q + 1) = _ from if_neg (fun w => by rw [q_1] at w; exact absurd w.1 (by decide))]; exact (lv_sub hl [0, 1, 2, 3] rfl))⟩ (by show 8 - (q + 1) < 8 - q; omega)
    · have q_1 := bh_tf_ne c_4
      refine lv_aload_n hx hb dX3_sendMissingVotes_18 rfl (lv_at hl 3 rfl) ?_
      refine lv_iload_n hx hb dX3_sendMissingVotes_19 rfl (lv_at hl 0 rfl) ?_
      refine vp_callSi (bn_roV (As := [.int (nI q)]) (rest := []) ⟨hx, hb, hml, hown, hts⟩ (cc_knows l D c h ad ba nv km (bc_smL C nv b q).2 b hb1 hb2 q (by omega)) (cwV 1 hts gX3_sendMissingVotes_X1_knows rfl rfl rfl (by decide +kernel) ⟨Nat.le_of_ble_eq_true rfl, Nat.le_of_ble_eq_true rfl⟩) hK hI (10 + (5 * (b - 1) + 0)) 1 rfl rfl ((bh_cw_b hb1 hb2 0 (by decide)).trans rfl) rfl hl.1 (Nat.le_of_ble_eq_true rfl) dX3_sendMissingVotes_20 ⟨Nat.le_of_ble_eq_true rfl, Nat.le_of_ble_eq_true rfl⟩) (fun r_5 er_5 => ?_)
      rw [bc_kn_2 h2_] at er_5
      subst er_5
      refine lv_if_ne (tgt := 49) hx hb dX3_sendMissingVotes_23 (by decide) (fun c_6 => ?_) (fun c_6 => ?_)
      · have q_2 := bh_tf_ne c_6
        refine lv_iinc (v := nI (q + 1)) (lv' := [(3, .int (nI (q + 1))), (2, .int ((bc_smL C nv b q).1)), (0, .ref h), (1, .ref (ba b 0))]) hx hb dX3_sendMissingVotes_49 hl (k := 0) rfl (nI_1 _) (by decide) rfl (fun ls hl => ?_)
        refine lv_goto (tgt := 4) hx hb dX3_sendMissingVotes_52 (by decide) ?_
        exact ih_1 (q + 1) _ _ _ ⟨by omega, (by rw [show bc_smL C nv b (q + 1) = _ from if_neg (fun w => by rw [q_2] at w; exact absurd w.2 (by decide))]; exact hI), (by rw [show bc_smL C nv b (q + 1) = _ from if_neg (fun w => by rw [q_2] at w; exact absurd w.2 (by decide))]; exact (lv_sub hl [0, 1, 2, 3] rfl))⟩ (by show 8 - (q + 1) < 8 - q; omega)
      · have q_2 := bh_tf_eq c_6
        refine lv_iload_n hx hb dX3_sendMissingVotes_26 rfl (lv_at hl 1 rfl) ?_
        refine lv_aload_n hx hb dX3_sendMissingVotes_27 rfl (lv_at hl 2 rfl) ?_
        refine lv_aload_n hx hb dX3_sendMissingVotes_28 rfl (lv_at hl 3 rfl) ?_
        refine bn_get (ci := 1) (v := .int (C.2.1 1 b)) (C := RX1) (T := TX1) (N := 14) hx hb hts hinX1 hown hK hI (10 + (5 * (b - 1) + 0)) ((bh_cw_b hb1 hb2 0 (by decide)).trans rfl) rfl 1 (by decide) lk_84 rfl (by show some (Value.int ((bc_smL C nv b q).2.2.1 1 b)) = _; rw [h2_]) dX3_sendMissingVotes_29 ?_
        refine lv_aload_n hx hb dX3_sendMissingVotes_32 rfl (lv_at hl 3 rfl) ?_
        refine bn_get (ci := 1) (v := .ref (ba b 3)) (C := RX1) (T := TX1) (N := 14) hx hb hts hinX1 hown hK hI (10 + (5 * (b - 1) + 0)) ((bh_cw_b hb1 hb2 0 (by decide)).trans rfl) rfl 12 (by decide) lk_154 rfl (rfl) dX3_sendMissingVotes_33 ?_
        refine lv_iload_n hx hb dX3_sendMissingVotes_36 rfl (lv_at hl 0 rfl) ?_
        refine bn_iald (n := 8) (v := C.2.2.1 12 b q) hx hb hK hI (10 + (5 * (b - 1) + 3)) 0 ((bh_cw_b hb1 hb2 3 (by decide)).trans rfl) rfl (by omega) (by first | decide | omega) (by rw [h2_]) dX3_sendMissingVotes_37 ?_
        refine lv_iconst (v := -1) hx hb dX3_sendMissingVotes_38 (by decide) ?_
        refine lv_ixor hx hb dX3_sendMissingVotes_39 ?_
        refine lv_iand hx hb dX3_sendMissingVotes_40 ?_
        refine lv_iconst (v := nI 4) hx hb dX3_sendMissingVotes_41 (by decide) ?_
        refine lv_aload_n hx hb dX3_sendMissingVotes_42 rfl (lv_at hl 3 rfl) ?_
        refine lv_iload_n hx hb dX3_sendMissingVotes_43 rfl (lv_at hl 0 rfl) ?_
        refine bn_mui (bn_muV (As := [.int ((C.2.1 1 b) &&& ((C.2.2.1 12 b q) ^^^ (-1))), .int (nI 4), .ref (ba b 0), .int (nI q)]) (rest := [.int ((bc_smL C nv b q).1)]) ⟨hx, hb, hml, hown, hts⟩ (cc_sendToEach l D c h ad ba nv km _ ((bc_smL C nv b q).2) (C.2.1 1 b &&& (C.2.2.1 12 b q ^^^ -1)) (nI 4) b hb1 hb2 (nI q) (hle) hn) (cwV 4 hts gX3_sendMissingVotes_X3_sendToEach rfl rfl rfl (by decide +kernel) ⟨Nat.le_of_ble_eq_true rfl, Nat.le_of_ble_eq_true rfl⟩) hK hI 0 2 rfl rfl rfl rfl hl.1 (Nat.le_of_ble_eq_true rfl) dX3_sendMissingVotes_44 ⟨Nat.le_of_ble_eq_true rfl, Nat.le_of_ble_eq_true rfl⟩) hI hA (fun r_7 u_7 H locs eu_7 hI => ?_)
        obtain ⟨er_7, eu_7⟩ := eu_7
        subst er_7
        subst eu_7
        refine lv_iadd hx hb dX3_sendMissingVotes_47 ?_
        refine lv_istore_n (lv' := [(2, .int (((bc_smL C nv b q).1) + (bh_bc (C.2.1 1 b &&& (C.2.2.1 12 b q ^^^ -1))))), (3, .int (nI q)), (0, .ref h), (1, .ref (ba b 0))]) hx hb dX3_sendMissingVotes_48 rfl hl (by decide) rfl (fun ls hl => ?_)
        refine lv_iinc (v := nI (q + 1)) (lv' := [(3, .int (nI (q + 1))), (2, .int (((bc_smL C nv b q).1) + (bh_bc (C.2.1 1 b &&& (C.2.2.1 12 b q ^^^ -1))))), (0, .ref h), (1, .ref (ba b 0))]) hx hb dX3_sendMissingVotes_49 hl (k := 1) rfl (nI_1 _) (by decide) rfl (fun ls hl => ?_)
        refine lv_goto (tgt := 4) hx hb dX3_sendMissingVotes_52 (by decide) ?_
        exact ih_1 (q + 1) _ _ _ ⟨by omega, (by rw [show bc_smL C nv b (q + 1) = _ from if_pos ⟨q_1, q_2⟩]; exact hI), (by rw [show bc_smL C nv b (q + 1) = _ from if_pos ⟨q_1, q_2⟩]; exact (lv_sub hl [0, 1, 2, 3] rfl))⟩ (by show 8 - (q + 1) < 8 - q; omega)
set_option maxHeartbeats 4000000 in
set_option maxRecDepth 100000 in
theorem cc_isForSilent (l : Launch) (D : va_G) (c : bh_C) (h : Nat) (ad : Nat → Nat) (ba : Nat → Nat → Nat) (nv km : Nat) (C : cS) (k : Nat) (hk : k < 400) : Met l yX3_isForSilent wsX3_isForSilent ({ frames := 0, cells := 0, slots := 0, locals := 0 }) (va_Pc [.ref h, .int (nI k)] (bh_pre D c (bh_cw h ad ba c nv km (C)))) (vp_Si (fun r => r = bh_tf (bc_fs C k))) 0 0 (fun _ => False) := by
  refine Met.ofW (cc := cX3_isForSilent) (maxL := 4) (ret := (some .boolean)) (by decide) rfl ?_
  intro p e s m args below meth c0 s₁ B hml hv
  obtain ⟨rfl, hP, hK, hD0⟩ := hv
  have hx := B.exec
  have hb := B.bytes
  have hr := B.returns
  have hts := atoms_spec (ws := wsX3_isForSilent) B.pre
  have hown : s.vm.findClass RX3 = some m.cls := findClass_of_methodNamed B.named
  have hlocks := B.notSynchronized
  have hinX3 : ∀ w ∈ wsX30, w ∈ wsX3_isForSilent := fun _ h => List.mem_cons_of_mem _ (List.mem_append_left _ (List.mem_append_right _ h))
  have hinX0 : ∀ w ∈ wsX00, w ∈ wsX3_isForSilent := fun _ h => List.mem_cons_of_mem _ (List.mem_append_right _ h)
  have lk_39 : (Cond.fieldLink RX3 39 "BallotHouse" "letters" "LBallotHouse$Air;").before _ s = true := hts _ (by decide +kernel)
  have lk_130 : (Cond.fieldLink RX3 130 "BallotHouse" "silentVoters" "I").before _ s = true := hts _ (by decide +kernel)
  have lk_163 : (Cond.fieldLink RX3 163 "BallotHouse$Air" "kind" "[I").before _ s = true := hts _ (by decide +kernel)
  have lk_169 : (Cond.fieldLink RX3 169 "BallotHouse$Air" "voter" "[I").before _ s = true := hts _ (by decide +kernel)
  have hI : bh_I D (bh_cw h ad ba c nv km (C)) (fun _ => True) s.heap s.heap [] := ⟨hP, hD0, va_S.rf⟩
  have hl := lv_entry ([.ref h, .int (nI k)]) (n := 4) (Nat.le_of_ble_eq_true rfl)
  rw [lg_entry_eq]
  generalize (lg_sl ([.ref h, .int (nI k)]) ++ List.replicate (4 - (lg_sl ([.ref h, .int (nI k)])).length) Slot.unset).toArray = ls at hl ⊢
  have hl : lv_has ls 4 [(0, .ref h), (1, .int (nI k))] := hl
  refine lv_aload_n hx hb dX3_isForSilent_0 rfl (lv_at hl 0 rfl) ?_
  refine bn_get (ci := 2) (v := .ref (ad 7)) (C := RX3) (T := TX3) (N := 8) hx hb hts hinX3 hown hK hI 0 rfl rfl 7 (by decide) lk_39 rfl (rfl) dX3_isForSilent_1 ?_
  refine bn_get (ci := 0) (v := .ref (ad 10)) (C := RX0) (T := TX0) (N := 7) hx hb hts hinX0 hown hK hI 4 rfl rfl 0 (by decide) lk_163 rfl (rfl) dX3_isForSilent_4 ?_
  refine lv_iload_n hx hb dX3_isForSilent_7 rfl (lv_at hl 1 rfl) ?_
  refine bn_iald (n := 400) (v := C.1.2.2.1 10 k) hx hb hK hI 5 0 rfl rfl (by omega) (by first | decide | omega) (rfl) dX3_isForSilent_8 ?_
  refine lv_istore_n (lv' := [(2, .int (C.1.2.2.1 10 k)), (0, .ref h), (1, .int (nI k))]) hx hb dX3_isForSilent_9 rfl hl (by decide) rfl (fun ls hl => ?_)
  refine lv_iload_n hx hb dX3_isForSilent_10 rfl (lv_at hl 0 rfl) ?_
  refine lv_iconst (v := nI 2) hx hb dX3_isForSilent_11 (by decide) ?_
  refine lv_icmp_eq (tgt := 20) hx hb dX3_isForSilent_12 (by decide) (fun c_1 => ?_) (fun c_1 => ?_)
  · refine lv_iconst (v := nI 1) hx hb dX3_isForSilent_20 (by decide) ?_
    refine lv_goto (tgt := 25) hx hb dX3_isForSilent_21 (by decide) ?_
    refine lv_istore_n (lv' := [(3, .int (nI 1)), (2, .int (C.1.2.2.1 10 k)), (0, .ref h), (1, .int (nI k))]) hx hb dX3_isForSilent_25 rfl hl (by decide) rfl (fun ls hl => ?_)
    refine lv_iload_n hx hb dX3_isForSilent_26 rfl (lv_at hl 0 rfl) ?_
    refine lv_if_eq (tgt := 53) hx hb dX3_isForSilent_27 (by decide) (fun c_2 => ?_) (fun c_2 => ?_)
    · first | exact absurd c_2 (by decide) | exact absurd (by decide) c_2
    · refine lv_aload_n hx hb dX3_isForSilent_30 rfl (lv_at hl 2 rfl) ?_
      refine bn_get (ci := 2) (v := .int (C.1.2.1 3)) (C := RX3) (T := TX3) (N := 8) hx hb hts hinX3 hown hK hI 0 rfl rfl 3 (by decide) lk_130 rfl (rfl) dX3_isForSilent_31 ?_
      refine lv_iconst (v := nI 1) hx hb dX3_isForSilent_34 (by decide) ?_
      refine lv_aload_n hx hb dX3_isForSilent_35 rfl (lv_at hl 2 rfl) ?_
      refine bn_get (ci := 2) (v := .ref (ad 7)) (C := RX3) (T := TX3) (N := 8) hx hb hts hinX3 hown hK hI 0 rfl rfl 7 (by decide) lk_39 rfl (rfl) dX3_isForSilent_36 ?_
      refine bn_get (ci := 0) (v := .ref (ad 12)) (C := RX0) (T := TX0) (N := 7) hx hb hts hinX0 hown hK hI 4 rfl rfl 2 (by decide) lk_169 rfl (rfl) dX3_isForSilent_39 ?_
      refine lv_iload_n hx hb dX3_isForSilent_42 rfl (lv_at hl 3 rfl) ?_
      refine bn_iald (n := 400) (v := C.1.2.2.1 12 k) hx hb hK hI 7 0 rfl rfl (by omega) (by first | decide | omega) (rfl) dX3_isForSilent_43 ?_
      refine lv_ishl hx hb dX3_isForSilent_44 ?_
      refine lv_iand hx hb dX3_isForSilent_45 ?_
      refine lv_if_eq (tgt := 53) hx hb dX3_isForSilent_46 (by decide) (fun c_3 => ?_) (fun c_3 => ?_)
      · refine lv_iconst (v := nI 0) hx hb dX3_isForSilent_53 (by decide) ?_
        exact bn_rotz hx hb hr hlocks (by unfold bc_fs; rw [decide_eq_true (Or.inl c_1), decide_eq_true c_3]; rfl) (by decide) dX3_isForSilent_54
      · refine lv_iconst (v := nI 1) hx hb dX3_isForSilent_49 (by decide) ?_
        refine lv_goto (tgt := 54) hx hb dX3_isForSilent_50 (by decide) ?_
        exact bn_rotz hx hb hr hlocks (by unfold bc_fs; rw [decide_eq_true (Or.inl c_1), decide_eq_false c_3]; rfl) (by decide) dX3_isForSilent_54
  · refine lv_iload_n hx hb dX3_isForSilent_15 rfl (lv_at hl 0 rfl) ?_
    refine lv_iconst (v := nI 4) hx hb dX3_isForSilent_16 (by decide) ?_
    refine lv_icmp_ne (tgt := 24) hx hb dX3_isForSilent_17 (by decide) (fun c_4 => ?_) (fun c_4 => ?_)
    · refine lv_iconst (v := nI 0) hx hb dX3_isForSilent_24 (by decide) ?_
      refine lv_istore_n (lv' := [(3, .int (nI 0)), (2, .int (C.1.2.2.1 10 k)), (0, .ref h), (1, .int (nI k))]) hx hb dX3_isForSilent_25 rfl hl (by decide) rfl (fun ls hl => ?_)
      refine lv_iload_n hx hb dX3_isForSilent_26 rfl (lv_at hl 0 rfl) ?_
      refine lv_if_eq (tgt := 53) hx hb dX3_isForSilent_27 (by decide) (fun c_5 => ?_) (fun c_5 => ?_)
      · refine lv_iconst (v := nI 0) hx hb dX3_isForSilent_53 (by decide) ?_
        exact bn_rotz hx hb hr hlocks (by unfold bc_fs; rw [decide_eq_false (fun w => w.elim c_1 c_4)]; rfl) (by decide) dX3_isForSilent_54
      · first | exact absurd c_5 (by decide) | exact absurd (by decide) c_5
    · refine lv_iconst (v := nI 1) hx hb dX3_isForSilent_20 (by decide) ?_
      refine lv_goto (tgt := 25) hx hb dX3_isForSilent_21 (by decide) ?_
      refine lv_istore_n (lv' := [(3, .int (nI 1)), (2, .int (C.1.2.2.1 10 k)), (0, .ref h), (1, .int (nI k))]) hx hb dX3_isForSilent_25 rfl hl (by decide) rfl (fun ls hl => ?_)
      refine lv_iload_n hx hb dX3_isForSilent_26 rfl (lv_at hl 0 rfl) ?_
      refine lv_if_eq (tgt := 53) hx hb dX3_isForSilent_27 (by decide) (fun c_6 => ?_) (fun c_6 => ?_)
      · first | exact absurd c_6 (by decide) | exact absurd (by decide) c_6
      · refine lv_aload_n hx hb dX3_isForSilent_30 rfl (lv_at hl 2 rfl) ?_
        refine bn_get (ci := 2) (v := .int (C.1.2.1 3)) (C := RX3) (T := TX3) (N := 8) hx hb hts hinX3 hown hK hI 0 rfl rfl 3 (by decide) lk_130 rfl (rfl) dX3_isForSilent_31 ?_
        refine lv_iconst (v := nI 1) hx hb dX3_isForSilent_34 (by decide) ?_
        refine lv_aload_n hx hb dX3_isForSilent_35 rfl (lv_at hl 2 rfl) ?_
        refine bn_get (ci := 2) (v := .ref (ad 7)) (C := RX3) (T := TX3) (N := 8) hx hb hts hinX3 hown hK hI 0 rfl rfl 7 (by decide) lk_39 rfl (rfl) dX3_isForSilent_36 ?_
        refine bn_get (ci := 0) (v := .ref (ad 12)) (C := RX0) (T := TX0) (N := 7) hx hb hts hinX0 hown hK hI 4 rfl rfl 2 (by decide) lk_169 rfl (rfl) dX3_isForSilent_39 ?_
        refine lv_iload_n hx hb dX3_isForSilent_42 rfl (lv_at hl 3 rfl) ?_
        refine bn_iald (n := 400) (v := C.1.2.2.1 12 k) hx hb hK hI 7 0 rfl rfl (by omega) (by first | decide | omega) (rfl) dX3_isForSilent_43 ?_
        refine lv_ishl hx hb dX3_isForSilent_44 ?_
        refine lv_iand hx hb dX3_isForSilent_45 ?_
        refine lv_if_eq (tgt := 53) hx hb dX3_isForSilent_46 (by decide) (fun c_7 => ?_) (fun c_7 => ?_)
        · refine lv_iconst (v := nI 0) hx hb dX3_isForSilent_53 (by decide) ?_
          exact bn_rotz hx hb hr hlocks (by unfold bc_fs; rw [decide_eq_true (Or.inr c_4), decide_eq_true c_7]; rfl) (by decide) dX3_isForSilent_54
        · refine lv_iconst (v := nI 1) hx hb dX3_isForSilent_49 (by decide) ?_
          refine lv_goto (tgt := 54) hx hb dX3_isForSilent_50 (by decide) ?_
          exact bn_rotz hx hb hr hlocks (by unfold bc_fs; rw [decide_eq_true (Or.inr c_4), decide_eq_false c_7]; rfl) (by decide) dX3_isForSilent_54
set_option maxHeartbeats 4000000 in
set_option maxRecDepth 100000 in
theorem cc_firstDeliverable (l : Launch) (D : va_G) (c : bh_C) (h : Nat) (ad : Nat → Nat) (ba : Nat → Nat → Nat) (nv km : Nat) (C : cS) (ha : C.1.1 15 ≤ 400) : Met l yX3_firstDeliverable wsX3_firstDeliverable ({ frames := 1, cells := 0, slots := 0, locals := 23 }) (va_Pc [.ref h] (bh_pre D c (bh_cw h ad ba c nv km (C)))) (vp_Si (fun r => r = bh_oi (bc_fd C))) 0 0 (fun _ => False) := by
  refine Met.ofW (cc := cX3_firstDeliverable) (maxL := 2) (ret := (some .int)) (by decide) rfl ?_
  intro p e s m args below meth c0 s₁ B hml hv
  obtain ⟨rfl, hP, hK, hD0⟩ := hv
  have hx := B.exec
  have hb := B.bytes
  have hr := B.returns
  have hts := atoms_spec (ws := wsX3_firstDeliverable) B.pre
  have hown : s.vm.findClass RX3 = some m.cls := findClass_of_methodNamed B.named
  have hlocks := B.notSynchronized
  have hinX3 : ∀ w ∈ wsX30, w ∈ wsX3_firstDeliverable := fun _ h => List.mem_cons_of_mem _ (List.mem_append_left _ (List.mem_append_right _ h))
  have hinX0 : ∀ w ∈ wsX00, w ∈ wsX3_firstDeliverable := fun _ h => List.mem_cons_of_mem _ (List.mem_append_right _ h)
  have lk_39 : (Cond.fieldLink RX3 39 "BallotHouse" "letters" "LBallotHouse$Air;").before _ s = true := hts _ (by decide +kernel)
  have lk_121 : (Cond.fieldLink RX3 121 "BallotHouse$Air" "size" "I").before _ s = true := hts _ (by decide +kernel)
  have hI : bh_I D (bh_cw h ad ba c nv km (C)) (fun _ => True) s.heap s.heap [] := ⟨hP, hD0, va_S.rf⟩
  have hl := lv_entry ([.ref h]) (n := 2) (Nat.le_of_ble_eq_true rfl)
  rw [lg_entry_eq]
  generalize (lg_sl ([.ref h]) ++ List.replicate (2 - (lg_sl ([.ref h])).length) Slot.unset).toArray = ls at hl ⊢
  have hl : lv_has ls 2 [(0, .ref h)] := hl
  refine lv_iconst (v := nI 0) hx hb dX3_firstDeliverable_0 (by decide) ?_
  refine lv_istore_n (lv' := [(1, .int (nI 0)), (0, .ref h)]) hx hb dX3_firstDeliverable_1 rfl hl (by decide) rfl (fun ls hl => ?_)
  refine bh_loop (σ := Nat) (fun (j : Nat) H locs ls => H = s.heap ∧ locs = [] ∧ j ≤ C.1.1 15 ∧ bc_ff C (C.1.1 15 - j) j = bc_fd C ∧ lv_has ls 2 [(1, .int (nI j)), (0, .ref h)]) (fun (j : Nat) => C.1.1 15 - j) (fun j H locs ls hx_1 ih_1 => ?_) 0 _ _ _ ⟨rfl, rfl, Nat.zero_le _, rfl, lv_sub hl [0, 1] rfl⟩
  clear hl
  obtain ⟨rfl, rfl, hj, hff, hl⟩ := hx_1
  refine lv_iload_n hx hb dX3_firstDeliverable_2 rfl (lv_at hl 0 rfl) ?_
  refine lv_aload_n hx hb dX3_firstDeliverable_3 rfl (lv_at hl 1 rfl) ?_
  refine bn_get (ci := 2) (v := .ref (ad 7)) (C := RX3) (T := TX3) (N := 8) hx hb hts hinX3 hown hK hI 0 rfl rfl 7 (by decide) lk_39 rfl (rfl) dX3_firstDeliverable_4 ?_
  refine bn_get (ci := 0) (v := .int (nI (C.1.1 15))) (C := RX0) (T := TX0) (N := 7) hx hb hts hinX0 hown hK hI 4 rfl rfl 5 (by decide) lk_121 rfl (rfl) dX3_firstDeliverable_7 ?_
  refine bn_cmp_ge (tgt := 29) hx hb (by omega) (by omega) dX3_firstDeliverable_10 (by decide) (fun c_2 => ?_) (fun c_2 => ?_)
  · refine lv_iconst (v := -1) hx hb dX3_firstDeliverable_29 (by decide) ?_
    exact bn_roti hx hb hr hlocks (by rw [← hff, show C.1.1 15 - j = 0 by omega]; rfl) dX3_firstDeliverable_30
  · refine lv_aload_n hx hb dX3_firstDeliverable_13 rfl (lv_at hl 1 rfl) ?_
    refine lv_iload_n hx hb dX3_firstDeliverable_14 rfl (lv_at hl 0 rfl) ?_
    refine vp_callSi (bn_roV (As := [.int (nI j)]) (rest := []) ⟨hx, hb, hml, hown, hts⟩ (cc_isForSilent l D c h ad ba nv km (C) j (by omega)) (cwV 1 hts gX3_firstDeliverable_X3_isForSilent rfl rfl rfl (by decide +kernel) ⟨Nat.le_of_ble_eq_true rfl, Nat.le_of_ble_eq_true rfl⟩) hK hI 0 2 rfl rfl rfl rfl hl.1 (Nat.le_of_ble_eq_true rfl) dX3_firstDeliverable_15 ⟨Nat.le_of_ble_eq_true rfl, Nat.le_of_ble_eq_true rfl⟩) (fun r_3 er_3 => ?_)
    subst er_3
    refine lv_if_ne (tgt := 23) hx hb dX3_firstDeliverable_18 (by decide) (fun c_4 => ?_) (fun c_4 => ?_)
    · have q_1 := bh_tf_ne c_4
      refine lv_iinc (v := nI (j + 1)) (lv' := [(1, .int (nI (j + 1))), (0, .ref h)]) hx hb dX3_firstDeliverable_23 hl (k := 0) rfl (nI_1 _) (by decide) rfl (fun ls hl => ?_)
      refine lv_goto (tgt := 2) hx hb dX3_firstDeliverable_26 (by decide) ?_
      exact ih_1 (j + 1) _ _ _ ⟨rfl, rfl, by omega, by rw [← hff, show C.1.1 15 - j = (C.1.1 15 - (j + 1)) + 1 by omega]; exact (if_pos q_1).symm, lv_sub hl [0, 1] rfl⟩ (by show C.1.1 15 - (j + 1) < C.1.1 15 - j; omega)
    · have q_1 := bh_tf_eq c_4
      refine lv_iload_n hx hb dX3_firstDeliverable_21 rfl (lv_at hl 0 rfl) ?_
      exact bn_roti hx hb hr hlocks (by rw [← hff, show C.1.1 15 - j = (C.1.1 15 - (j + 1)) + 1 by omega, show bc_ff C (C.1.1 15 - (j + 1) + 1) j = some j from if_neg (by rw [q_1]; decide)]; rfl) dX3_firstDeliverable_22
set_option maxHeartbeats 4000000 in
set_option maxRecDepth 100000 in
theorem cc_isReadingOver (l : Launch) (D : va_G) (c : bh_C) (h : Nat) (ad : Nat → Nat) (ba : Nat → Nat → Nat) (nv km : Nat) (C : cS) (b : Nat) (hb1 : 1 ≤ b) (hb2 : b ≤ km) (g : Nat) (hg : C.2.1 4 b = nI g) (hg24 : g ≤ 24) (hk24 : km ≤ 24) : Met l yX3_isReadingOver wsX3_isReadingOver ({ frames := 1, cells := 0, slots := 0, locals := 21 }) (va_Pc [.ref h, .ref (ba b 0)] (bh_pre D c (bh_cw h ad ba c nv km (C)))) (vp_Si (fun r => r = bh_tf (bc_ir C b g))) 0 0 (fun _ => False) := by
  refine Met.ofW (cc := cX3_isReadingOver) (maxL := 4) (ret := (some .boolean)) (by decide) rfl ?_
  intro p e s m args below meth c0 s₁ B hml hv
  obtain ⟨rfl, hP, hK, hD0⟩ := hv
  have hx := B.exec
  have hb := B.bytes
  have hr := B.returns
  have hts := atoms_spec (ws := wsX3_isReadingOver) B.pre
  have hown : s.vm.findClass RX3 = some m.cls := findClass_of_methodNamed B.named
  have hlocks := B.notSynchronized
  have hinX1 : ∀ w ∈ wsX10, w ∈ wsX3_isReadingOver := fun _ h => List.mem_cons_of_mem _ (List.mem_append_left _ (List.mem_append_right _ h))
  have hinX3 : ∀ w ∈ wsX30, w ∈ wsX3_isReadingOver := fun _ h => List.mem_cons_of_mem _ (List.mem_append_right _ h)
  have lk_84 : (Cond.fieldLink RX3 84 "BallotHouse$Ballot" "members" "I").before _ s = true := hts _ (by decide +kernel)
  have lk_91 : (Cond.fieldLink RX3 91 "BallotHouse$Ballot" "number" "I").before _ s = true := hts _ (by decide +kernel)
  have lk_97 : (Cond.fieldLink RX3 97 "BallotHouse$Ballot" "readAnswers" "I").before _ s = true := hts _ (by decide +kernel)
  have lk_139 : (Cond.fieldLink RX3 139 "BallotHouse$Ballot" "\x72" "I").before _ s = true := hts _ (by decide +kernel)
  have lk_145 : (Cond.fieldLink RX3 145 "BallotHouse$Ballot" "behind" "I").before _ s = true := hts _ (by decide +kernel)
  have hI : bh_I D (bh_cw h ad ba c nv km (C)) (fun _ => True) s.heap s.heap [] := ⟨hP, hD0, va_S.rf⟩
  have hl := lv_entry ([.ref h, .ref (ba b 0)]) (n := 4) (Nat.le_of_ble_eq_true rfl)
  rw [lg_entry_eq]
  generalize (lg_sl ([.ref h, .ref (ba b 0)]) ++ List.replicate (4 - (lg_sl ([.ref h, .ref (ba b 0)])).length) Slot.unset).toArray = ls at hl ⊢
  have hl : lv_has ls 4 [(0, .ref h), (1, .ref (ba b 0))] := hl
  have hf := bh_fr_le hg24
  have hfp := bc_fr_pos g
  refine lv_iconst (v := nI 1) hx hb dX3_isReadingOver_0 (by decide) ?_
  refine lv_aload_n hx hb dX3_isReadingOver_1 rfl (lv_at hl 1 rfl) ?_
  refine bn_get (ci := 1) (v := .int (nI g)) (C := RX1) (T := TX1) (N := 14) hx hb hts hinX1 hown hK hI (10 + (5 * (b - 1) + 0)) ((bh_cw_b hb1 hb2 0 (by decide)).trans rfl) rfl 4 (by decide) lk_145 rfl (by show some (Value.int (C.2.1 4 b)) = _; rw [hg]) dX3_isReadingOver_2 ?_
  refine va_mmax hx hb (hml.trans hl.1.symm) hown (hts (.methodLink RX3 15 Lib.Math.max.name) (by decide +kernel)) (hts (.static Lib.Math.max.name) (by decide +kernel)) (hts (.initialized "java/lang/Math") (by decide +kernel)) (hts (.code Lib.Math.max.name Lib.Math.max.code 2 (some .int)) (by decide +kernel)) (Nat.le_of_ble_eq_true rfl) (Nat.le_of_ble_eq_true rfl) (Nat.le_of_ble_eq_true rfl) (Nat.le_of_ble_eq_true rfl) dX3_isReadingOver_5 ?_
  refine lv_topi (fun z_1 ez_1 => ?_)
  obtain rfl : z_1 = nI (bh_fr g) := ez_1.trans (bc_fr_max g hg24)
  refine lv_istore_n (lv' := [(2, .int (nI (bh_fr g))), (0, .ref h), (1, .ref (ba b 0))]) hx hb dX3_isReadingOver_8 rfl hl (by decide) rfl (fun ls hl => ?_)
  refine bh_loop (σ := Nat) (fun (d : Nat) H locs ls => H = s.heap ∧ locs = [] ∧ d ≤ b - bh_fr g ∧ bc_irL C b (bh_fr g) d = true ∧ lv_has ls 4 [(2, .int (nI (bh_fr g + d))), (0, .ref h), (1, .ref (ba b 0))]) (fun (d : Nat) => b - bh_fr g - d) (fun d H locs ls hx_2 ih_2 => ?_) 0 _ _ _ ⟨rfl, rfl, Nat.zero_le _, rfl, lv_sub hl [0, 1, 2] rfl⟩
  clear hl
  obtain ⟨rfl, rfl, hd, hir, hl⟩ := hx_2
  refine lv_iload_n hx hb dX3_isReadingOver_9 rfl (lv_at hl 0 rfl) ?_
  refine lv_aload_n hx hb dX3_isReadingOver_10 rfl (lv_at hl 2 rfl) ?_
  refine bn_get (ci := 1) (v := .int (nI b)) (C := RX1) (T := TX1) (N := 14) hx hb hts hinX1 hown hK hI (10 + (5 * (b - 1) + 0)) ((bh_cw_b hb1 hb2 0 (by decide)).trans rfl) rfl 0 (by decide) lk_91 rfl (rfl) dX3_isReadingOver_11 ?_
  refine bn_cmp_ge (tgt := 54) hx hb (by omega) (by omega) dX3_isReadingOver_14 (by decide) (fun c_3 => ?_) (fun c_3 => ?_)
  · refine lv_iconst (v := nI 1) hx hb dX3_isReadingOver_54 (by decide) ?_
    exact bn_rotz hx hb hr hlocks (by unfold bc_ir; rw [show b - bh_fr g = d by omega, hir]; rfl) (by decide) dX3_isReadingOver_55
  · obtain ⟨j_, hj_, hj_1, hj_2⟩ : ∃ j, j = bh_fr g + d ∧ 1 ≤ j ∧ j ≤ km := ⟨_, rfl, by omega, by omega⟩
    rw [← hj_] at hl
    refine lv_aload_n hx hb dX3_isReadingOver_17 rfl (lv_at hl 1 rfl) ?_
    refine lv_iload_n hx hb dX3_isReadingOver_18 rfl (lv_at hl 0 rfl) ?_
    refine va_csq (bn_roV (As := [.int (nI j_)]) (rest := []) ⟨hx, hb, hml, hown, hts⟩ (cc_find l D c h ad ba nv km (C) (j_) (hj_1) (hj_2) hk24) (cwV 1 hts gX3_isReadingOver_X3_find rfl rfl rfl (by decide +kernel) ⟨Nat.le_of_ble_eq_true rfl, Nat.le_of_ble_eq_true rfl⟩) hK hI 0 2 rfl rfl rfl rfl hl.1 (Nat.le_of_ble_eq_true rfl) dX3_isReadingOver_19 ⟨Nat.le_of_ble_eq_true rfl, Nat.le_of_ble_eq_true rfl⟩) (fun r_4 er_4 => ?_)
    subst er_4
    refine lv_astore_n (lv' := [(3, .ref (ba j_ 0)), (2, .int (nI j_)), (0, .ref h), (1, .ref (ba b 0))]) hx hb dX3_isReadingOver_22 rfl hl (by decide) rfl (fun ls hl => ?_)
    refine lv_aload_n hx hb dX3_isReadingOver_23 rfl (lv_at hl 0 rfl) ?_
    refine lv_ifnull hx hb dX3_isReadingOver_24 ?_
    refine lv_aload_n hx hb dX3_isReadingOver_27 rfl (lv_at hl 0 rfl) ?_
    refine bn_get (ci := 1) (v := .int (C.2.1 1 j_)) (C := RX1) (T := TX1) (N := 14) hx hb hts hinX1 hown hK hI (10 + (5 * (j_ - 1) + 0)) ((bh_cw_b hj_1 hj_2 0 (by decide)).trans rfl) rfl 1 (by decide) lk_84 rfl (rfl) dX3_isReadingOver_28 ?_
    refine lv_aload_n hx hb dX3_isReadingOver_31 rfl (lv_at hl 3 rfl) ?_
    refine bn_get (ci := 1) (v := .int (C.2.1 7 b)) (C := RX1) (T := TX1) (N := 14) hx hb hts hinX1 hown hK hI (10 + (5 * (b - 1) + 0)) ((bh_cw_b hb1 hb2 0 (by decide)).trans rfl) rfl 7 (by decide) lk_97 rfl (rfl) dX3_isReadingOver_32 ?_
    refine lv_iand hx hb dX3_isReadingOver_35 ?_
    refine vp_callSi (bn_roS (As := [.int ((C.2.1 1 j_) &&& (C.2.1 7 b))]) (rest := []) ⟨hx, hb, hml, hown, hts⟩ (cc_bitCount l (C.2.1 1 j_ &&& C.2.1 7 b)) (va_cwS 1 hts gX3_isReadingOver_J6_bitCount_0f7a4 rfl rfl rfl (by decide +kernel) ⟨Nat.le_of_ble_eq_true rfl, Nat.le_of_ble_eq_true rfl⟩) rfl hl.1 (Nat.le_of_ble_eq_true rfl) dX3_isReadingOver_36 ⟨Nat.le_of_ble_eq_true rfl, Nat.le_of_ble_eq_true rfl⟩) (fun r_5 er_5 => ?_)
    subst er_5
    refine lv_aload_n hx hb dX3_isReadingOver_39 rfl (lv_at hl 0 rfl) ?_
    refine bn_get (ci := 1) (v := .int (C.2.1 2 j_)) (C := RX1) (T := TX1) (N := 14) hx hb hts hinX1 hown hK hI (10 + (5 * (j_ - 1) + 0)) ((bh_cw_b hj_1 hj_2 0 (by decide)).trans rfl) rfl 2 (by decide) lk_139 rfl (rfl) dX3_isReadingOver_40 ?_
    refine lv_icmp_ge (tgt := 48) hx hb dX3_isReadingOver_43 (by decide) (fun c_6 => ?_) (fun c_6 => ?_)
    · have q_1 : C.2.1 2 (bh_fr g + d) ≤ bh_bc (C.2.1 1 (bh_fr g + d) &&& C.2.1 7 b) := by rw [← hj_]; exact c_6
      refine lv_iinc (v := nI (j_ + 1)) (lv' := [(2, .int (nI (j_ + 1))), (3, .ref (ba j_ 0)), (0, .ref h), (1, .ref (ba b 0))]) hx hb dX3_isReadingOver_48 hl (k := 1) rfl (nI_1 _) (by decide) rfl (fun ls hl => ?_)
      refine lv_goto (tgt := 9) hx hb dX3_isReadingOver_51 (by decide) ?_
      exact ih_2 (d + 1) _ _ _ ⟨rfl, rfl, by omega, by unfold bc_irL; rw [hir, decide_eq_true q_1]; rfl, (by rw [show bh_fr g + (d + 1) = j_ + 1 by omega]; exact (lv_sub hl [0, 2, 3] rfl))⟩ (by show b - bh_fr g - (d + 1) < b - bh_fr g - d; omega)
    · have q_1 : ¬ C.2.1 2 (bh_fr g + d) ≤ bh_bc (C.2.1 1 (bh_fr g + d) &&& C.2.1 7 b) := by rw [← hj_]; exact c_6
      refine lv_iconst (v := nI 0) hx hb dX3_isReadingOver_46 (by decide) ?_
      exact bn_rotz hx hb hr hlocks (by unfold bc_ir; rw [bc_irL_f (d := d + 1) (by unfold bc_irL; rw [decide_eq_false q_1, Bool.and_false]) (by omega)]; rfl) (by decide) dX3_isReadingOver_47
set_option maxHeartbeats 4000000 in
set_option maxRecDepth 100000 in
theorem cc_goOn (l : Launch) (D : va_G) (c : bh_C) (h : Nat) (ad : Nat → Nat) (ba : Nat → Nat → Nat) (nv km : Nat) (sz : Nat) (C : cS) (b : Nat) (hb1 : 1 ≤ b) (hb2 : b ≤ km) (g : Nat) (hg : C.2.1 4 b = nI g) (hg24 : g ≤ 24) (ha : C.1.1 15 ≤ 400) (hn : nv ≤ 7) (hk24 : km ≤ 24) : Met l yX3_goOn wsX3_goOn ({ frames := 3, cells := 0, slots := 0, locals := 74 }) (va_Pc [.ref h, .ref (ba b 0)] (bh_prm D c (bh_cw h ad ba c nv km (C)) sz)) (va_Qv (fun u : cS => u = bc_go C nv b g) (fun u t => bh_post D c (bh_cw h ad ba c nv km u) (va_A (bh_cw h ad ba c nv km (C)) sz) t) (va_A (bh_cw h ad ba c nv km (C)) sz)) 0 0 (va_A (bh_cw h ad ba c nv km (C)) sz) := by
  refine Met.ofW (cc := cX3_goOn) (maxL := 2) (ret := none) (by decide) rfl ?_
  intro p e s m args below meth c0 s₁ B hml hv
  obtain ⟨rfl, hsz, hP, hK, hD0⟩ := hv
  have hx := B.exec
  have hb := B.bytes
  have hr := B.returns
  have hts := atoms_spec (ws := wsX3_goOn) B.pre
  have hown : s.vm.findClass RX3 = some m.cls := findClass_of_methodNamed B.named
  have hlocks := B.notSynchronized
  have hinX1 : ∀ w ∈ wsX10, w ∈ wsX3_goOn := fun _ h => List.mem_cons_of_mem _ (List.mem_append_left _ (List.mem_append_left _ (List.mem_append_right _ h)))
  have hinX3 : ∀ w ∈ wsX30, w ∈ wsX3_goOn := fun _ h => List.mem_cons_of_mem _ (List.mem_append_left _ (List.mem_append_right _ h))
  have hinX0 : ∀ w ∈ wsX00, w ∈ wsX3_goOn := fun _ h => List.mem_cons_of_mem _ (List.mem_append_right _ h)
  have lk_39 : (Cond.fieldLink RX3 39 "BallotHouse" "letters" "LBallotHouse$Air;").before _ s = true := hts _ (by decide +kernel)
  have lk_72 : (Cond.fieldLink RX3 72 "BallotHouse$Ballot" "state" "I").before _ s = true := hts _ (by decide +kernel)
  have lk_91 : (Cond.fieldLink RX3 91 "BallotHouse$Ballot" "number" "I").before _ s = true := hts _ (by decide +kernel)
  have lk_148 : (Cond.fieldLink RX3 148 "BallotHouse$Ballot" "found" "I").before _ s = true := hts _ (by decide +kernel)
  subst hsz
  have hI := bh_start hP hD0
  generalize hAe : va_A (bh_cw h ad ba c nv km (C)) s.heap.size = A at hI ⊢
  have hA : ∀ q : Nat, s.heap.size ≤ q → A q := fun q h => by rw [← hAe]; exact Or.inr h
  clear hP hD0 hAe
  have hl := lv_entry ([.ref h, .ref (ba b 0)]) (n := 2) (Nat.le_of_ble_eq_true rfl)
  rw [lg_entry_eq]
  generalize (lg_sl ([.ref h, .ref (ba b 0)]) ++ List.replicate (2 - (lg_sl ([.ref h, .ref (ba b 0)])).length) Slot.unset).toArray = ls at hl ⊢
  have hl : lv_has ls 2 [(0, .ref h), (1, .ref (ba b 0))] := hl
  refine lv_aload_n hx hb dX3_goOn_0 rfl (lv_at hl 1 rfl) ?_
  refine bn_get (ci := 1) (v := .int (C.2.1 6 b)) (C := RX1) (T := TX1) (N := 14) hx hb hts hinX1 hown hK hI (10 + (5 * (b - 1) + 0)) ((bh_cw_b hb1 hb2 0 (by decide)).trans rfl) rfl 6 (by decide) lk_72 rfl (rfl) dX3_goOn_1 ?_
  refine lv_iconst (v := nI 1) hx hb dX3_goOn_4 (by decide) ?_
  refine lv_icmp_ne (tgt := 27) hx hb dX3_goOn_5 (by decide) (fun c_1 => ?_) (fun c_1 => ?_)
  · have q_1 : bc_g1 C nv b g = C := if_neg (fun w => c_1 w.1)
    have hI := Eq.mpr (congrArg (fun Z => bh_I D (bh_cw h ad ba c nv km Z) A s.heap _ _) q_1) hI
    refine lv_aload_n hx hb dX3_goOn_27 rfl (lv_at hl 1 rfl) ?_
    refine bn_get (ci := 1) (v := .int ((bc_g1 C nv b g).2.1 6 b)) (C := RX1) (T := TX1) (N := 14) hx hb hts hinX1 hown hK hI (10 + (5 * (b - 1) + 0)) ((bh_cw_b hb1 hb2 0 (by decide)).trans rfl) rfl 6 (by decide) lk_72 rfl (rfl) dX3_goOn_28 ?_
    refine lv_iconst (v := nI 2) hx hb dX3_goOn_31 (by decide) ?_
    refine lv_icmp_ne (tgt := 70) hx hb dX3_goOn_32 (by decide) (fun c_2 => ?_) (fun c_2 => ?_)
    · exact bn_retv hx hb hr hlocks hK (bc_g1 C nv b g) hI (by unfold bc_go; rw [if_neg (fun w => c_2 w.1)]) dX3_goOn_70
    · refine lv_aload_n hx hb dX3_goOn_35 rfl (lv_at hl 1 rfl) ?_
      refine bn_get (ci := 1) (v := .int ((bc_g1 C nv b g).2.1 8 b)) (C := RX1) (T := TX1) (N := 14) hx hb hts hinX1 hown hK hI (10 + (5 * (b - 1) + 0)) ((bh_cw_b hb1 hb2 0 (by decide)).trans rfl) rfl 8 (by decide) lk_148 rfl (rfl) dX3_goOn_36 ?_
      refine lv_aload_n hx hb dX3_goOn_39 rfl (lv_at hl 1 rfl) ?_
      refine vp_callSi (bn_roV (As := []) (rest := [.int ((bc_g1 C nv b g).2.1 8 b)]) ⟨hx, hb, hml, hown, hts⟩ (cc_knownPlaces l D c h ad ba nv km (bc_g1 C nv b g) b hb1 hb2) (cwV 0 hts gX3_goOn_X1_knownPlaces rfl rfl rfl (by decide +kernel) ⟨Nat.le_of_ble_eq_true rfl, Nat.le_of_ble_eq_true rfl⟩) hK hI (10 + (5 * (b - 1) + 0)) 1 rfl rfl ((bh_cw_b hb1 hb2 0 (by decide)).trans rfl) rfl hl.1 (Nat.le_of_ble_eq_true rfl) dX3_goOn_40 ⟨Nat.le_of_ble_eq_true rfl, Nat.le_of_ble_eq_true rfl⟩) (fun r_3 er_3 => ?_)
      subst er_3
      refine lv_iconst (v := -1) hx hb dX3_goOn_43 (by decide) ?_
      refine lv_ixor hx hb dX3_goOn_44 ?_
      refine lv_iand hx hb dX3_goOn_45 ?_
      refine lv_if_ne (tgt := 70) hx hb dX3_goOn_46 (by decide) (fun c_4 => ?_) (fun c_4 => ?_)
      · exact bn_retv hx hb hr hlocks hK (bc_g1 C nv b g) hI (by unfold bc_go; rw [if_neg (fun w => c_4 w.2)]) dX3_goOn_70
      · refine lv_aload_n hx hb dX3_goOn_49 rfl (lv_at hl 1 rfl) ?_
        refine lv_iconst (v := nI 3) hx hb dX3_goOn_50 (by decide) ?_
        refine bn_put (ci := 1) (v := .int (nI 3)) (ty := .int) (C := RX1) (T := TX1) (N := 14) (ws' := bh_cw h ad ba c nv km (bc_f (bc_g1 C nv b g) 6 b (nI 3))) hx hb hts hinX1 tyX1 tyX1_ok nmX1 hown hK hI (10 + (5 * (b - 1) + 0)) ((bh_cw_b hb1 hb2 0 (by decide)).trans rfl) rfl 6 (by decide) lk_72 rfl rfl rfl rfl rfl (Nat.le_of_ble_eq_true rfl) dX3_goOn_51 (bh_cw_f 6 _ (by decide) hb1 hb2) (fun H locs hI => ?_)
        refine lv_aload_n hx hb dX3_goOn_54 rfl (lv_at hl 0 rfl) ?_
        refine bn_get (ci := 2) (v := .ref (ad 7)) (C := RX3) (T := TX3) (N := 8) hx hb hts hinX3 hown hK hI 0 rfl rfl 7 (by decide) lk_39 rfl (rfl) dX3_goOn_55 ?_
        refine lv_bipush (v := nI 6) hx hb dX3_goOn_58 (by decide) ?_
        refine lv_aload_n hx hb dX3_goOn_60 rfl (lv_at hl 1 rfl) ?_
        refine bn_get (ci := 1) (v := .int (nI b)) (C := RX1) (T := TX1) (N := 14) hx hb hts hinX1 hown hK hI (10 + (5 * (b - 1) + 0)) ((bh_cw_b hb1 hb2 0 (by decide)).trans rfl) rfl 0 (by decide) lk_91 rfl (rfl) dX3_goOn_61 ?_
        refine lv_iconst (v := -1) hx hb dX3_goOn_64 (by decide) ?_
        refine lv_iconst (v := -1) hx hb dX3_goOn_65 (by decide) ?_
        refine lv_lconst (v := 0) hx hb dX3_goOn_66 (by decide) ?_
        refine bn_muv (bn_muV (As := [.int (nI 6), .int (nI b), .int (-1), .int (-1), .long (0)]) (rest := []) ⟨hx, hb, hml, hown, hts⟩ (cc_send l D c h ad ba nv km _ (bc_f (bc_g1 C nv b g) 6 b (nI 3)) (nI 6) (nI b) (-1) (-1) (0) (bc_g1_le ha nv b g)) (cwV 5 hts gX3_goOn_X0_send rfl rfl rfl (by decide +kernel) ⟨Nat.le_of_ble_eq_true rfl, Nat.le_of_ble_eq_true rfl⟩) hK hI 4 0 rfl rfl rfl rfl hl.1 (Nat.le_of_ble_eq_true rfl) dX3_goOn_67 ⟨Nat.le_of_ble_eq_true rfl, Nat.le_of_ble_eq_true rfl⟩) hI hA (fun u_5 H locs eu_5 hI => ?_)
        subst eu_5
        exact bn_retv hx hb hr hlocks hK (bc_sd (bc_f (bc_g1 C nv b g) 6 b (nI 3)) (nI 6) (nI b) (-1) (-1) 0) hI (by unfold bc_go; rw [if_pos ⟨c_2, c_4⟩]) dX3_goOn_70
  · have q_0 := c_1
    refine lv_aload_n hx hb dX3_goOn_8 rfl (lv_at hl 0 rfl) ?_
    refine lv_aload_n hx hb dX3_goOn_9 rfl (lv_at hl 1 rfl) ?_
    refine vp_callSi (bn_roV (As := [.ref (ba b 0)]) (rest := []) ⟨hx, hb, hml, hown, hts⟩ (cc_isReadingOver l D c h ad ba nv km C b hb1 hb2 g hg hg24 hk24) (cwV 1 hts gX3_goOn_X3_isReadingOver rfl rfl rfl (by decide +kernel) ⟨Nat.le_of_ble_eq_true rfl, Nat.le_of_ble_eq_true rfl⟩) hK hI 0 2 rfl rfl rfl rfl hl.1 (Nat.le_of_ble_eq_true rfl) dX3_goOn_10 ⟨Nat.le_of_ble_eq_true rfl, Nat.le_of_ble_eq_true rfl⟩) (fun r_6 er_6 => ?_)
    subst er_6
    refine lv_if_eq (tgt := 27) hx hb dX3_goOn_13 (by decide) (fun c_7 => ?_) (fun c_7 => ?_)
    · have q_1 : bc_g1 C nv b g = C := if_neg (fun w => by rw [bh_tf_eq c_7] at w; exact absurd w.2 (by decide))
      have hI := Eq.mpr (congrArg (fun Z => bh_I D (bh_cw h ad ba c nv km Z) A s.heap _ _) q_1) hI
      refine lv_aload_n hx hb dX3_goOn_27 rfl (lv_at hl 1 rfl) ?_
      refine bn_get (ci := 1) (v := .int ((bc_g1 C nv b g).2.1 6 b)) (C := RX1) (T := TX1) (N := 14) hx hb hts hinX1 hown hK hI (10 + (5 * (b - 1) + 0)) ((bh_cw_b hb1 hb2 0 (by decide)).trans rfl) rfl 6 (by decide) lk_72 rfl (rfl) dX3_goOn_28 ?_
      refine lv_iconst (v := nI 2) hx hb dX3_goOn_31 (by decide) ?_
      refine lv_icmp_ne (tgt := 70) hx hb dX3_goOn_32 (by decide) (fun c_8 => ?_) (fun c_8 => ?_)
      · exact bn_retv hx hb hr hlocks hK (bc_g1 C nv b g) hI (by unfold bc_go; rw [if_neg (fun w => c_8 w.1)]) dX3_goOn_70
      · refine lv_aload_n hx hb dX3_goOn_35 rfl (lv_at hl 1 rfl) ?_
        refine bn_get (ci := 1) (v := .int ((bc_g1 C nv b g).2.1 8 b)) (C := RX1) (T := TX1) (N := 14) hx hb hts hinX1 hown hK hI (10 + (5 * (b - 1) + 0)) ((bh_cw_b hb1 hb2 0 (by decide)).trans rfl) rfl 8 (by decide) lk_148 rfl (rfl) dX3_goOn_36 ?_
        refine lv_aload_n hx hb dX3_goOn_39 rfl (lv_at hl 1 rfl) ?_
        refine vp_callSi (bn_roV (As := []) (rest := [.int ((bc_g1 C nv b g).2.1 8 b)]) ⟨hx, hb, hml, hown, hts⟩ (cc_knownPlaces l D c h ad ba nv km (bc_g1 C nv b g) b hb1 hb2) (cwV 0 hts gX3_goOn_X1_knownPlaces rfl rfl rfl (by decide +kernel) ⟨Nat.le_of_ble_eq_true rfl, Nat.le_of_ble_eq_true rfl⟩) hK hI (10 + (5 * (b - 1) + 0)) 1 rfl rfl ((bh_cw_b hb1 hb2 0 (by decide)).trans rfl) rfl hl.1 (Nat.le_of_ble_eq_true rfl) dX3_goOn_40 ⟨Nat.le_of_ble_eq_true rfl, Nat.le_of_ble_eq_true rfl⟩) (fun r_9 er_9 => ?_)
        subst er_9
        refine lv_iconst (v := -1) hx hb dX3_goOn_43 (by decide) ?_
        refine lv_ixor hx hb dX3_goOn_44 ?_
        refine lv_iand hx hb dX3_goOn_45 ?_
        refine lv_if_ne (tgt := 70) hx hb dX3_goOn_46 (by decide) (fun c_10 => ?_) (fun c_10 => ?_)
        · exact bn_retv hx hb hr hlocks hK (bc_g1 C nv b g) hI (by unfold bc_go; rw [if_neg (fun w => c_10 w.2)]) dX3_goOn_70
        · refine lv_aload_n hx hb dX3_goOn_49 rfl (lv_at hl 1 rfl) ?_
          refine lv_iconst (v := nI 3) hx hb dX3_goOn_50 (by decide) ?_
          refine bn_put (ci := 1) (v := .int (nI 3)) (ty := .int) (C := RX1) (T := TX1) (N := 14) (ws' := bh_cw h ad ba c nv km (bc_f (bc_g1 C nv b g) 6 b (nI 3))) hx hb hts hinX1 tyX1 tyX1_ok nmX1 hown hK hI (10 + (5 * (b - 1) + 0)) ((bh_cw_b hb1 hb2 0 (by decide)).trans rfl) rfl 6 (by decide) lk_72 rfl rfl rfl rfl rfl (Nat.le_of_ble_eq_true rfl) dX3_goOn_51 (bh_cw_f 6 _ (by decide) hb1 hb2) (fun H locs hI => ?_)
          refine lv_aload_n hx hb dX3_goOn_54 rfl (lv_at hl 0 rfl) ?_
          refine bn_get (ci := 2) (v := .ref (ad 7)) (C := RX3) (T := TX3) (N := 8) hx hb hts hinX3 hown hK hI 0 rfl rfl 7 (by decide) lk_39 rfl (rfl) dX3_goOn_55 ?_
          refine lv_bipush (v := nI 6) hx hb dX3_goOn_58 (by decide) ?_
          refine lv_aload_n hx hb dX3_goOn_60 rfl (lv_at hl 1 rfl) ?_
          refine bn_get (ci := 1) (v := .int (nI b)) (C := RX1) (T := TX1) (N := 14) hx hb hts hinX1 hown hK hI (10 + (5 * (b - 1) + 0)) ((bh_cw_b hb1 hb2 0 (by decide)).trans rfl) rfl 0 (by decide) lk_91 rfl (rfl) dX3_goOn_61 ?_
          refine lv_iconst (v := -1) hx hb dX3_goOn_64 (by decide) ?_
          refine lv_iconst (v := -1) hx hb dX3_goOn_65 (by decide) ?_
          refine lv_lconst (v := 0) hx hb dX3_goOn_66 (by decide) ?_
          refine bn_muv (bn_muV (As := [.int (nI 6), .int (nI b), .int (-1), .int (-1), .long (0)]) (rest := []) ⟨hx, hb, hml, hown, hts⟩ (cc_send l D c h ad ba nv km _ (bc_f (bc_g1 C nv b g) 6 b (nI 3)) (nI 6) (nI b) (-1) (-1) (0) (bc_g1_le ha nv b g)) (cwV 5 hts gX3_goOn_X0_send rfl rfl rfl (by decide +kernel) ⟨Nat.le_of_ble_eq_true rfl, Nat.le_of_ble_eq_true rfl⟩) hK hI 4 0 rfl rfl rfl rfl hl.1 (Nat.le_of_ble_eq_true rfl) dX3_goOn_67 ⟨Nat.le_of_ble_eq_true rfl, Nat.le_of_ble_eq_true rfl⟩) hI hA (fun u_11 H locs eu_11 hI => ?_)
          subst eu_11
          exact bn_retv hx hb hr hlocks hK (bc_sd (bc_f (bc_g1 C nv b g) 6 b (nI 3)) (nI 6) (nI b) (-1) (-1) 0) hI (by unfold bc_go; rw [if_pos ⟨c_8, c_10⟩]) dX3_goOn_70
    · have q_1 : bc_g1 C nv b g = (bc_smL (bc_f C 6 b (nI 2)) nv b 8).2 := if_pos ⟨q_0, bh_tf_ne c_7⟩
      refine lv_aload_n hx hb dX3_goOn_16 rfl (lv_at hl 1 rfl) ?_
      refine lv_iconst (v := nI 2) hx hb dX3_goOn_17 (by decide) ?_
      refine bn_put (ci := 1) (v := .int (nI 2)) (ty := .int) (C := RX1) (T := TX1) (N := 14) (ws' := bh_cw h ad ba c nv km (bc_f C 6 b (nI 2))) hx hb hts hinX1 tyX1 tyX1_ok nmX1 hown hK hI (10 + (5 * (b - 1) + 0)) ((bh_cw_b hb1 hb2 0 (by decide)).trans rfl) rfl 6 (by decide) lk_72 rfl rfl rfl rfl rfl (Nat.le_of_ble_eq_true rfl) dX3_goOn_18 (bh_cw_f 6 _ (by decide) hb1 hb2) (fun H locs hI => ?_)
      refine lv_aload_n hx hb dX3_goOn_21 rfl (lv_at hl 0 rfl) ?_
      refine lv_aload_n hx hb dX3_goOn_22 rfl (lv_at hl 1 rfl) ?_
      refine bn_mui (bn_muV (As := [.ref (ba b 0)]) (rest := []) ⟨hx, hb, hml, hown, hts⟩ (cc_sendMissingVotes l D c h ad ba nv km _ (bc_f C 6 b (nI 2)) b hb1 hb2 ha hn) (cwV 1 hts gX3_goOn_X3_sendMissingVotes rfl rfl rfl (by decide +kernel) ⟨Nat.le_of_ble_eq_true rfl, Nat.le_of_ble_eq_true rfl⟩) hK hI 0 2 rfl rfl rfl rfl hl.1 (Nat.le_of_ble_eq_true rfl) dX3_goOn_23 ⟨Nat.le_of_ble_eq_true rfl, Nat.le_of_ble_eq_true rfl⟩) hI hA (fun r_12 u_12 H locs eu_12 hI => ?_)
      obtain ⟨er_12, eu_12⟩ := eu_12
      subst er_12
      subst eu_12
      refine lv_pop hx hb dX3_goOn_26 rfl ?_
      have hI := Eq.mpr (congrArg (fun Z => bh_I D (bh_cw h ad ba c nv km Z) A s.heap _ _) q_1) hI
      refine lv_aload_n hx hb dX3_goOn_27 rfl (lv_at hl 1 rfl) ?_
      refine bn_get (ci := 1) (v := .int ((bc_g1 C nv b g).2.1 6 b)) (C := RX1) (T := TX1) (N := 14) hx hb hts hinX1 hown hK hI (10 + (5 * (b - 1) + 0)) ((bh_cw_b hb1 hb2 0 (by decide)).trans rfl) rfl 6 (by decide) lk_72 rfl (rfl) dX3_goOn_28 ?_
      refine lv_iconst (v := nI 2) hx hb dX3_goOn_31 (by decide) ?_
      refine lv_icmp_ne (tgt := 70) hx hb dX3_goOn_32 (by decide) (fun c_13 => ?_) (fun c_13 => ?_)
      · exact bn_retv hx hb hr hlocks hK (bc_g1 C nv b g) hI (by unfold bc_go; rw [if_neg (fun w => c_13 w.1)]) dX3_goOn_70
      · refine lv_aload_n hx hb dX3_goOn_35 rfl (lv_at hl 1 rfl) ?_
        refine bn_get (ci := 1) (v := .int ((bc_g1 C nv b g).2.1 8 b)) (C := RX1) (T := TX1) (N := 14) hx hb hts hinX1 hown hK hI (10 + (5 * (b - 1) + 0)) ((bh_cw_b hb1 hb2 0 (by decide)).trans rfl) rfl 8 (by decide) lk_148 rfl (rfl) dX3_goOn_36 ?_
        refine lv_aload_n hx hb dX3_goOn_39 rfl (lv_at hl 1 rfl) ?_
        refine vp_callSi (bn_roV (As := []) (rest := [.int ((bc_g1 C nv b g).2.1 8 b)]) ⟨hx, hb, hml, hown, hts⟩ (cc_knownPlaces l D c h ad ba nv km (bc_g1 C nv b g) b hb1 hb2) (cwV 0 hts gX3_goOn_X1_knownPlaces rfl rfl rfl (by decide +kernel) ⟨Nat.le_of_ble_eq_true rfl, Nat.le_of_ble_eq_true rfl⟩) hK hI (10 + (5 * (b - 1) + 0)) 1 rfl rfl ((bh_cw_b hb1 hb2 0 (by decide)).trans rfl) rfl hl.1 (Nat.le_of_ble_eq_true rfl) dX3_goOn_40 ⟨Nat.le_of_ble_eq_true rfl, Nat.le_of_ble_eq_true rfl⟩) (fun r_14 er_14 => ?_)
        subst er_14
        refine lv_iconst (v := -1) hx hb dX3_goOn_43 (by decide) ?_
        refine lv_ixor hx hb dX3_goOn_44 ?_
        refine lv_iand hx hb dX3_goOn_45 ?_
        refine lv_if_ne (tgt := 70) hx hb dX3_goOn_46 (by decide) (fun c_15 => ?_) (fun c_15 => ?_)
        · exact bn_retv hx hb hr hlocks hK (bc_g1 C nv b g) hI (by unfold bc_go; rw [if_neg (fun w => c_15 w.2)]) dX3_goOn_70
        · refine lv_aload_n hx hb dX3_goOn_49 rfl (lv_at hl 1 rfl) ?_
          refine lv_iconst (v := nI 3) hx hb dX3_goOn_50 (by decide) ?_
          refine bn_put (ci := 1) (v := .int (nI 3)) (ty := .int) (C := RX1) (T := TX1) (N := 14) (ws' := bh_cw h ad ba c nv km (bc_f (bc_g1 C nv b g) 6 b (nI 3))) hx hb hts hinX1 tyX1 tyX1_ok nmX1 hown hK hI (10 + (5 * (b - 1) + 0)) ((bh_cw_b hb1 hb2 0 (by decide)).trans rfl) rfl 6 (by decide) lk_72 rfl rfl rfl rfl rfl (Nat.le_of_ble_eq_true rfl) dX3_goOn_51 (bh_cw_f 6 _ (by decide) hb1 hb2) (fun H locs hI => ?_)
          refine lv_aload_n hx hb dX3_goOn_54 rfl (lv_at hl 0 rfl) ?_
          refine bn_get (ci := 2) (v := .ref (ad 7)) (C := RX3) (T := TX3) (N := 8) hx hb hts hinX3 hown hK hI 0 rfl rfl 7 (by decide) lk_39 rfl (rfl) dX3_goOn_55 ?_
          refine lv_bipush (v := nI 6) hx hb dX3_goOn_58 (by decide) ?_
          refine lv_aload_n hx hb dX3_goOn_60 rfl (lv_at hl 1 rfl) ?_
          refine bn_get (ci := 1) (v := .int (nI b)) (C := RX1) (T := TX1) (N := 14) hx hb hts hinX1 hown hK hI (10 + (5 * (b - 1) + 0)) ((bh_cw_b hb1 hb2 0 (by decide)).trans rfl) rfl 0 (by decide) lk_91 rfl (rfl) dX3_goOn_61 ?_
          refine lv_iconst (v := -1) hx hb dX3_goOn_64 (by decide) ?_
          refine lv_iconst (v := -1) hx hb dX3_goOn_65 (by decide) ?_
          refine lv_lconst (v := 0) hx hb dX3_goOn_66 (by decide) ?_
          refine bn_muv (bn_muV (As := [.int (nI 6), .int (nI b), .int (-1), .int (-1), .long (0)]) (rest := []) ⟨hx, hb, hml, hown, hts⟩ (cc_send l D c h ad ba nv km _ (bc_f (bc_g1 C nv b g) 6 b (nI 3)) (nI 6) (nI b) (-1) (-1) (0) (bc_g1_le ha nv b g)) (cwV 5 hts gX3_goOn_X0_send rfl rfl rfl (by decide +kernel) ⟨Nat.le_of_ble_eq_true rfl, Nat.le_of_ble_eq_true rfl⟩) hK hI 4 0 rfl rfl rfl rfl hl.1 (Nat.le_of_ble_eq_true rfl) dX3_goOn_67 ⟨Nat.le_of_ble_eq_true rfl, Nat.le_of_ble_eq_true rfl⟩) hI hA (fun u_16 H locs eu_16 hI => ?_)
          subst eu_16
          exact bn_retv hx hb hr hlocks hK (bc_sd (bc_f (bc_g1 C nv b g) 6 b (nI 3)) (nI 6) (nI b) (-1) (-1) 0) hI (by unfold bc_go; rw [if_pos ⟨c_13, c_15⟩]) dX3_goOn_70
set_option maxHeartbeats 4000000 in
set_option maxRecDepth 100000 in
theorem cc_newComes (l : Launch) (D : va_G) (c : bh_C) (h : Nat) (ad : Nat → Nat) (ba : Nat → Nat → Nat) (nv km : Nat) (sz : Nat) (C : cS) (b : Nat) (hb1 : 1 ≤ b) (hb2 : b ≤ km) (g : Nat) (hg : C.2.1 4 b = nI g) (hg24 : g ≤ 24) (ha : C.1.1 15 ≤ 400) (hn : nv ≤ 7) (hk24 : km ≤ 24) : Met l yX3_newComes wsX3_newComes ({ frames := 4, cells := 0, slots := 0, locals := 95 }) (va_Pc [.ref h, .ref (ba b 0)] (bh_prm D c (bh_cw h ad ba c nv km (C)) sz)) (va_Qv (fun u : cS => u = bc_ne C nv b g) (fun u t => bh_post D c (bh_cw h ad ba c nv km u) (va_A (bh_cw h ad ba c nv km (C)) sz) t) (va_A (bh_cw h ad ba c nv km (C)) sz)) 0 0 (va_A (bh_cw h ad ba c nv km (C)) sz) := by
  refine Met.ofW (cc := cX3_newComes) (maxL := 2) (ret := none) (by decide) rfl ?_
  intro p e s m args below meth c0 s₁ B hml hv
  obtain ⟨rfl, hsz, hP, hK, hD0⟩ := hv
  have hx := B.exec
  have hb := B.bytes
  have hr := B.returns
  have hts := atoms_spec (ws := wsX3_newComes) B.pre
  have hown : s.vm.findClass RX3 = some m.cls := findClass_of_methodNamed B.named
  have hlocks := B.notSynchronized
  have hinX1 : ∀ w ∈ wsX10, w ∈ wsX3_newComes := fun _ h => List.mem_cons_of_mem _ (List.mem_append_left _ (List.mem_append_left _ (List.mem_append_right _ h)))
  have hinX3 : ∀ w ∈ wsX30, w ∈ wsX3_newComes := fun _ h => List.mem_cons_of_mem _ (List.mem_append_left _ (List.mem_append_right _ h))
  have hinX0 : ∀ w ∈ wsX00, w ∈ wsX3_newComes := fun _ h => List.mem_cons_of_mem _ (List.mem_append_right _ h)
  have lk_72 : (Cond.fieldLink RX3 72 "BallotHouse$Ballot" "state" "I").before _ s = true := hts _ (by decide +kernel)
  have lk_94 : (Cond.fieldLink RX3 94 "BallotHouse$Ballot" "readers" "I").before _ s = true := hts _ (by decide +kernel)
  subst hsz
  have hI := bh_start hP hD0
  generalize hAe : va_A (bh_cw h ad ba c nv km (C)) s.heap.size = A at hI ⊢
  have hA : ∀ q : Nat, s.heap.size ≤ q → A q := fun q h => by rw [← hAe]; exact Or.inr h
  clear hP hD0 hAe
  have hl := lv_entry ([.ref h, .ref (ba b 0)]) (n := 2) (Nat.le_of_ble_eq_true rfl)
  rw [lg_entry_eq]
  generalize (lg_sl ([.ref h, .ref (ba b 0)]) ++ List.replicate (2 - (lg_sl ([.ref h, .ref (ba b 0)])).length) Slot.unset).toArray = ls at hl ⊢
  have hl : lv_has ls 2 [(0, .ref h), (1, .ref (ba b 0))] := hl
  refine lv_aload_n hx hb dX3_newComes_0 rfl (lv_at hl 1 rfl) ?_
  refine bn_get (ci := 1) (v := .int (C.2.1 6 b)) (C := RX1) (T := TX1) (N := 14) hx hb hts hinX1 hown hK hI (10 + (5 * (b - 1) + 0)) ((bh_cw_b hb1 hb2 0 (by decide)).trans rfl) rfl 6 (by decide) lk_72 rfl (rfl) dX3_newComes_1 ?_
  refine lv_if_ne (tgt := 29) hx hb dX3_newComes_4 (by decide) (fun c_1 => ?_) (fun c_1 => ?_)
  · exact bn_retv hx hb hr hlocks hK (C) hI (by unfold bc_ne; rw [if_neg c_1]) dX3_newComes_29
  · refine lv_aload_n hx hb dX3_newComes_7 rfl (lv_at hl 1 rfl) ?_
    refine lv_iconst (v := nI 1) hx hb dX3_newComes_8 (by decide) ?_
    refine bn_put (ci := 1) (v := .int (nI 1)) (ty := .int) (C := RX1) (T := TX1) (N := 14) (ws' := bh_cw h ad ba c nv km (bc_f C 6 b (nI 1))) hx hb hts hinX1 tyX1 tyX1_ok nmX1 hown hK hI (10 + (5 * (b - 1) + 0)) ((bh_cw_b hb1 hb2 0 (by decide)).trans rfl) rfl 6 (by decide) lk_72 rfl rfl rfl rfl rfl (Nat.le_of_ble_eq_true rfl) dX3_newComes_9 (bh_cw_f 6 _ (by decide) hb1 hb2) (fun H locs hI => ?_)
    refine lv_aload_n hx hb dX3_newComes_12 rfl (lv_at hl 0 rfl) ?_
    refine lv_aload_n hx hb dX3_newComes_13 rfl (lv_at hl 1 rfl) ?_
    refine bn_get (ci := 1) (v := .int (C.2.1 5 b)) (C := RX1) (T := TX1) (N := 14) hx hb hts hinX1 hown hK hI (10 + (5 * (b - 1) + 0)) ((bh_cw_b hb1 hb2 0 (by decide)).trans rfl) rfl 5 (by decide) lk_94 rfl (rfl) dX3_newComes_14 ?_
    refine lv_iconst (v := nI 2) hx hb dX3_newComes_17 (by decide) ?_
    refine lv_aload_n hx hb dX3_newComes_18 rfl (lv_at hl 1 rfl) ?_
    refine lv_iconst (v := -1) hx hb dX3_newComes_19 (by decide) ?_
    refine bn_mui (bn_muV (As := [.int (C.2.1 5 b), .int (nI 2), .ref (ba b 0), .int (-1)]) (rest := []) ⟨hx, hb, hml, hown, hts⟩ (cc_sendToEach l D c h ad ba nv km _ (bc_f C 6 b (nI 1)) (C.2.1 5 b) (nI 2) b hb1 hb2 (-1) (ha) hn) (cwV 4 hts gX3_newComes_X3_sendToEach rfl rfl rfl (by decide +kernel) ⟨Nat.le_of_ble_eq_true rfl, Nat.le_of_ble_eq_true rfl⟩) hK hI 0 2 rfl rfl rfl rfl hl.1 (Nat.le_of_ble_eq_true rfl) dX3_newComes_20 ⟨Nat.le_of_ble_eq_true rfl, Nat.le_of_ble_eq_true rfl⟩) hI hA (fun r_2 u_2 H locs eu_2 hI => ?_)
    obtain ⟨er_2, eu_2⟩ := eu_2
    subst er_2
    subst eu_2
    refine lv_pop hx hb dX3_newComes_23 rfl ?_
    refine lv_aload_n hx hb dX3_newComes_24 rfl (lv_at hl 0 rfl) ?_
    refine lv_aload_n hx hb dX3_newComes_25 rfl (lv_at hl 1 rfl) ?_
    refine bn_muv (bn_muV (As := [.ref (ba b 0)]) (rest := []) ⟨hx, hb, hml, hown, hts⟩ (cc_goOn l D c h ad ba nv km _ (bc_seL (bc_f C 6 b (nI 1)) (C.2.1 5 b) (nI 2) b (-1) nv) b hb1 hb2 g (by rw [bc_seL_2]; exact hg) hg24 (bc_seL_le (C := bc_f C 6 b (nI 1)) ha _ _ _ _ _) hn hk24) (cwV 1 hts gX3_newComes_X3_goOn rfl rfl rfl (by decide +kernel) ⟨Nat.le_of_ble_eq_true rfl, Nat.le_of_ble_eq_true rfl⟩) hK hI 0 2 rfl rfl rfl rfl hl.1 (Nat.le_of_ble_eq_true rfl) dX3_newComes_26 ⟨Nat.le_of_ble_eq_true rfl, Nat.le_of_ble_eq_true rfl⟩) hI hA (fun u_3 H locs eu_3 hI => ?_)
    subst eu_3
    exact bn_retv hx hb hr hlocks hK (bc_go (bc_seL (bc_f C 6 b (nI 1)) (C.2.1 5 b) (nI 2) b (-1) nv) nv b g) hI (by unfold bc_ne; rw [if_pos c_1]) dX3_newComes_29
set_option maxHeartbeats 4000000 in
set_option maxRecDepth 100000 in
theorem cc_readComes (l : Launch) (D : va_G) (c : bh_C) (h : Nat) (ad : Nat → Nat) (ba : Nat → Nat → Nat) (nv km : Nat) (sz : Nat) (C : cS) (b : Nat) (hb1 : 1 ≤ b) (hb2 : b ≤ km) (v : Nat) (hv : v < nv) (ha : C.1.1 15 ≤ 400) (hn : nv ≤ 7) : Met l yX3_readComes wsX3_readComes ({ frames := 1, cells := 0, slots := 0, locals := 26 }) (va_Pc [.ref h, .ref (ba b 0), .int (nI v)] (bh_prm D c (bh_cw h ad ba c nv km (C)) sz)) (va_Qv (fun u : cS => u = bc_re C b v) (fun u t => bh_post D c (bh_cw h ad ba c nv km u) (va_A (bh_cw h ad ba c nv km (C)) sz) t) (va_A (bh_cw h ad ba c nv km (C)) sz)) 0 0 (va_A (bh_cw h ad ba c nv km (C)) sz) := by
  refine Met.ofW (cc := cX3_readComes) (maxL := 3) (ret := none) (by decide) rfl ?_
  intro p e s m args below meth c0 s₁ B hml hv
  obtain ⟨rfl, hsz, hP, hK, hD0⟩ := hv
  have hx := B.exec
  have hb := B.bytes
  have hr := B.returns
  have hts := atoms_spec (ws := wsX3_readComes) B.pre
  have hown : s.vm.findClass RX3 = some m.cls := findClass_of_methodNamed B.named
  have hlocks := B.notSynchronized
  have hinX3 : ∀ w ∈ wsX30, w ∈ wsX3_readComes := fun _ h => List.mem_cons_of_mem _ (List.mem_append_left _ (List.mem_append_left _ (List.mem_append_right _ h)))
  have hinX1 : ∀ w ∈ wsX10, w ∈ wsX3_readComes := fun _ h => List.mem_cons_of_mem _ (List.mem_append_left _ (List.mem_append_right _ h))
  have hinX0 : ∀ w ∈ wsX00, w ∈ wsX3_readComes := fun _ h => List.mem_cons_of_mem _ (List.mem_append_right _ h)
  have lk_22 : (Cond.fieldLink RX3 22 "BallotHouse" "promises" "[I").before _ s = true := hts _ (by decide +kernel)
  have lk_26 : (Cond.fieldLink RX3 26 "BallotHouse" "votes" "[J").before _ s = true := hts _ (by decide +kernel)
  have lk_39 : (Cond.fieldLink RX3 39 "BallotHouse" "letters" "LBallotHouse$Air;").before _ s = true := hts _ (by decide +kernel)
  have lk_91 : (Cond.fieldLink RX3 91 "BallotHouse$Ballot" "number" "I").before _ s = true := hts _ (by decide +kernel)
  subst hsz
  have hI := bh_start hP hD0
  generalize hAe : va_A (bh_cw h ad ba c nv km (C)) s.heap.size = A at hI ⊢
  have hA : ∀ q : Nat, s.heap.size ≤ q → A q := fun q h => by rw [← hAe]; exact Or.inr h
  clear hP hD0 hAe
  have hl := lv_entry ([.ref h, .ref (ba b 0), .int (nI v)]) (n := 3) (Nat.le_of_ble_eq_true rfl)
  rw [lg_entry_eq]
  generalize (lg_sl ([.ref h, .ref (ba b 0), .int (nI v)]) ++ List.replicate (3 - (lg_sl ([.ref h, .ref (ba b 0), .int (nI v)])).length) Slot.unset).toArray = ls at hl ⊢
  have hl : lv_has ls 3 [(0, .ref h), (1, .ref (ba b 0)), (2, .int (nI v))] := hl
  have hx1 := bh_ix_nI hv (by omega)
  refine lv_aload_n hx hb dX3_readComes_0 rfl (lv_at hl 0 rfl) ?_
  refine lv_iload_n hx hb dX3_readComes_1 rfl (lv_at hl 2 rfl) ?_
  refine vp_callSi (bn_roV (As := [.int (nI v)]) (rest := []) ⟨hx, hb, hml, hown, hts⟩ (cc_isVoter l D c h ad ba nv km (C) (nI v) hn) (cwV 1 hts gX3_readComes_X3_isVoter rfl rfl rfl (by decide +kernel) ⟨Nat.le_of_ble_eq_true rfl, Nat.le_of_ble_eq_true rfl⟩) hK hI 0 2 rfl rfl rfl rfl hl.1 (Nat.le_of_ble_eq_true rfl) dX3_readComes_2 ⟨Nat.le_of_ble_eq_true rfl, Nat.le_of_ble_eq_true rfl⟩) (fun r_1 er_1 => ?_)
  obtain rfl : r_1 = nI 1 := by rw [er_1, hx1]; rfl
  refine lv_if_eq (tgt := 51) hx hb dX3_readComes_5 (by decide) (fun c_2 => ?_) (fun c_2 => ?_)
  · first | exact absurd c_2 (by decide) | exact absurd (by decide) c_2
  · refine lv_aload_n hx hb dX3_readComes_8 rfl (lv_at hl 0 rfl) ?_
    refine bn_get (ci := 2) (v := .ref (ad 1)) (C := RX3) (T := TX3) (N := 8) hx hb hts hinX3 hown hK hI 0 rfl rfl 1 (by decide) lk_22 rfl (rfl) dX3_readComes_9 ?_
    refine lv_iload_n hx hb dX3_readComes_12 rfl (lv_at hl 2 rfl) ?_
    refine bn_iald (n := nv) (v := C.1.2.2.1 1 v) hx hb hK hI 1 0 rfl rfl (by omega) (by first | decide | omega) (rfl) dX3_readComes_13 ?_
    refine lv_aload_n hx hb dX3_readComes_14 rfl (lv_at hl 1 rfl) ?_
    refine bn_get (ci := 1) (v := .int (nI b)) (C := RX1) (T := TX1) (N := 14) hx hb hts hinX1 hown hK hI (10 + (5 * (b - 1) + 0)) ((bh_cw_b hb1 hb2 0 (by decide)).trans rfl) rfl 0 (by decide) lk_91 rfl (rfl) dX3_readComes_15 ?_
    refine lv_icmp_gt (tgt := 51) hx hb dX3_readComes_18 (by decide) (fun c_3 => ?_) (fun c_3 => ?_)
    · exact bn_retv hx hb hr hlocks hK (C) hI (by unfold bc_re; rw [if_neg (Int32.not_le.mpr c_3)]) dX3_readComes_51
    · refine lv_aload_n hx hb dX3_readComes_21 rfl (lv_at hl 0 rfl) ?_
      refine bn_get (ci := 2) (v := .ref (ad 1)) (C := RX3) (T := TX3) (N := 8) hx hb hts hinX3 hown hK hI 0 rfl rfl 1 (by decide) lk_22 rfl (rfl) dX3_readComes_22 ?_
      refine lv_iload_n hx hb dX3_readComes_25 rfl (lv_at hl 2 rfl) ?_
      refine lv_aload_n hx hb dX3_readComes_26 rfl (lv_at hl 1 rfl) ?_
      refine bn_get (ci := 1) (v := .int (nI b)) (C := RX1) (T := TX1) (N := 14) hx hb hts hinX1 hown hK hI (10 + (5 * (b - 1) + 0)) ((bh_cw_b hb1 hb2 0 (by decide)).trans rfl) rfl 0 (by decide) lk_91 rfl (rfl) dX3_readComes_27 ?_
      refine bn_iast (n := nv) (ws' := bh_cw h ad ba c nv km (bc_r C 1 v (nI b))) hx hb hK hI 1 0 rfl rfl (by omega) (by first | decide | omega) dX3_readComes_30 rfl (fun H locs hI => ?_)
      refine lv_aload_n hx hb dX3_readComes_31 rfl (lv_at hl 0 rfl) ?_
      refine bn_get (ci := 2) (v := .ref (ad 7)) (C := RX3) (T := TX3) (N := 8) hx hb hts hinX3 hown hK hI 0 rfl rfl 7 (by decide) lk_39 rfl (rfl) dX3_readComes_32 ?_
      refine lv_iconst (v := nI 3) hx hb dX3_readComes_35 (by decide) ?_
      refine lv_aload_n hx hb dX3_readComes_36 rfl (lv_at hl 1 rfl) ?_
      refine bn_get (ci := 1) (v := .int (nI b)) (C := RX1) (T := TX1) (N := 14) hx hb hts hinX1 hown hK hI (10 + (5 * (b - 1) + 0)) ((bh_cw_b hb1 hb2 0 (by decide)).trans rfl) rfl 0 (by decide) lk_91 rfl (rfl) dX3_readComes_37 ?_
      refine lv_iload_n hx hb dX3_readComes_40 rfl (lv_at hl 2 rfl) ?_
      refine lv_iconst (v := -1) hx hb dX3_readComes_41 (by decide) ?_
      refine lv_aload_n hx hb dX3_readComes_42 rfl (lv_at hl 0 rfl) ?_
      refine bn_get (ci := 2) (v := .ref (ad 2)) (C := RX3) (T := TX3) (N := 8) hx hb hts hinX3 hown hK hI 0 rfl rfl 2 (by decide) lk_26 rfl (rfl) dX3_readComes_43 ?_
      refine lv_iload_n hx hb dX3_readComes_46 rfl (lv_at hl 2 rfl) ?_
      refine bn_lald (n := nv) (v := C.1.2.2.2 2 v) hx hb hK hI 2 1 rfl rfl (by omega) (by first | decide | omega) (rfl) dX3_readComes_47 ?_
      refine bn_muv (bn_muV (As := [.int (nI 3), .int (nI b), .int (nI v), .int (-1), .long (C.1.2.2.2 2 v)]) (rest := []) ⟨hx, hb, hml, hown, hts⟩ (cc_send l D c h ad ba nv km _ (bc_r C 1 v (nI b)) (nI 3) (nI b) (nI v) (-1) (C.1.2.2.2 2 v) (ha)) (cwV 5 hts gX3_readComes_X0_send rfl rfl rfl (by decide +kernel) ⟨Nat.le_of_ble_eq_true rfl, Nat.le_of_ble_eq_true rfl⟩) hK hI 4 0 rfl rfl rfl rfl hl.1 (Nat.le_of_ble_eq_true rfl) dX3_readComes_48 ⟨Nat.le_of_ble_eq_true rfl, Nat.le_of_ble_eq_true rfl⟩) hI hA (fun u_4 H locs eu_4 hI => ?_)
      subst eu_4
      exact bn_retv hx hb hr hlocks hK (bc_sd (bc_r C 1 v (nI b)) (nI 3) (nI b) (nI v) (-1) (C.1.2.2.2 2 v)) hI (by unfold bc_re; rw [if_pos (Int32.not_lt.mp c_3)]) dX3_readComes_51
set_option maxHeartbeats 4000000 in
set_option maxRecDepth 100000 in
theorem cc_takeFound (l : Launch) (D : va_G) (c : bh_C) (h : Nat) (ad : Nat → Nat) (ba : Nat → Nat → Nat) (nv km : Nat) (sz : Nat) (C : cS) (b : Nat) (hb1 : 1 ≤ b) (hb2 : b ≤ km) (x : Int64) (hk24 : km ≤ 24) : Met l yX3_takeFound wsX3_takeFound ({ frames := 1, cells := 0, slots := 0, locals := 22 }) (va_Pc [.ref h, .ref (ba b 0), .long (x)] (bh_prm D c (bh_cw h ad ba c nv km (C)) sz)) (va_Qv (fun u : cS => u = bc_tfL C km b x 8) (fun u t => bh_post D c (bh_cw h ad ba c nv km u) (va_A (bh_cw h ad ba c nv km (C)) sz) t) (va_A (bh_cw h ad ba c nv km (C)) sz)) 0 0 (va_A (bh_cw h ad ba c nv km (C)) sz) := by
  refine Met.ofW (cc := cX3_takeFound) (maxL := 6) (ret := none) (by decide) rfl ?_
  intro p e s m args below meth c0 s₁ B hml hv
  obtain ⟨rfl, hsz, hP, hK, hD0⟩ := hv
  have hx := B.exec
  have hb := B.bytes
  have hr := B.returns
  have hts := atoms_spec (ws := wsX3_takeFound) B.pre
  have hown : s.vm.findClass RX3 = some m.cls := findClass_of_methodNamed B.named
  have hlocks := B.notSynchronized
  have hinX1 : ∀ w ∈ wsX10, w ∈ wsX3_takeFound := fun _ h => List.mem_cons_of_mem _ (List.mem_append_left _ (List.mem_append_right _ h))
  have hinX3 : ∀ w ∈ wsX30, w ∈ wsX3_takeFound := fun _ h => List.mem_cons_of_mem _ (List.mem_append_right _ h)
  have lk_81 : (Cond.fieldLink RX3 81 "BallotHouse$Ballot" "words" "[J").before _ s = true := hts _ (by decide +kernel)
  have lk_91 : (Cond.fieldLink RX3 91 "BallotHouse$Ballot" "number" "I").before _ s = true := hts _ (by decide +kernel)
  have lk_148 : (Cond.fieldLink RX3 148 "BallotHouse$Ballot" "found" "I").before _ s = true := hts _ (by decide +kernel)
  have lk_223 : (Cond.fieldLink RX3 223 "BallotHouse$Ballot" "foundBy" "[I").before _ s = true := hts _ (by decide +kernel)
  subst hsz
  have hI := bh_start hP hD0
  generalize hAe : va_A (bh_cw h ad ba c nv km (C)) s.heap.size = A at hI ⊢
  have hA : ∀ q : Nat, s.heap.size ≤ q → A q := fun q h => by rw [← hAe]; exact Or.inr h
  clear hP hD0 hAe
  have hl := lv_entry ([.ref h, .ref (ba b 0), .long (x)]) (n := 6) (Nat.le_of_ble_eq_true rfl)
  rw [lg_entry_eq]
  generalize (lg_sl ([.ref h, .ref (ba b 0), .long (x)]) ++ List.replicate (6 - (lg_sl ([.ref h, .ref (ba b 0), .long (x)])).length) Slot.unset).toArray = ls at hl ⊢
  have hl : lv_has ls 6 [(0, .ref h), (1, .ref (ba b 0)), (2, .long (x))] := hl
  refine lv_iconst (v := nI 0) hx hb dX3_takeFound_0 (by decide) ?_
  refine lv_istore (lv' := [(4, .int (nI 0)), (0, .ref h), (1, .ref (ba b 0)), (2, .long (x))]) hx hb dX3_takeFound_1 hl (by decide) rfl (fun ls hl => ?_)
  refine bh_loop (σ := Nat) (fun (q : Nat) H locs ls => q ≤ 8 ∧ bh_I D (bh_cw h ad ba c nv km (bc_tfL C km b x q)) A s.heap H locs ∧ lv_has ls 6 [(4, .int (nI q)), (0, .ref h), (1, .ref (ba b 0)), (2, .long (x))]) (fun (q : Nat) => 8 - q) (fun q H locs ls hx_1 ih_1 => ?_) 0 _ _ _ ⟨Nat.zero_le 8, hI, lv_sub hl [0, 1, 2, 3] rfl⟩
  clear hl hI
  obtain ⟨hq, hI, hl⟩ := hx_1
  refine lv_iload hx hb dX3_takeFound_3 (lv_at hl 0 rfl) ?_
  refine lv_bipush (v := nI 8) hx hb dX3_takeFound_5 (by decide) ?_
  refine bn_cmp_ge (tgt := 88) hx hb (by omega) (by omega) dX3_takeFound_7 (by decide) (fun c_2 => ?_) (fun c_2 => ?_)
  · exact bn_retv hx hb hr hlocks hK (bc_tfL C km b x q) hI (by rw [show q = 8 by omega]) dX3_takeFound_88
  · rcases hx1 : bh_ixb (bh_at x q) km with _ | j_
    · have q_s : bc_tfL C km b x (q + 1) = bc_tfL C km b x q := by rw [bc_tfL, hx1]
      refine lv_aload_n hx hb dX3_takeFound_10 rfl (lv_at hl 1 rfl) ?_
      refine lv_lload_n hx hb dX3_takeFound_11 rfl (lv_at hl 3 rfl) ?_
      refine lv_iload hx hb dX3_takeFound_12 (lv_at hl 0 rfl) ?_
      refine vp_callSi (bn_roS (As := [.long (x), .int (nI q)]) (rest := [.ref h]) ⟨hx, hb, hml, hown, hts⟩ (cc_at l (x) (q)) (va_cwS 2 hts gX3_takeFound_X2_at rfl rfl rfl (by decide +kernel) ⟨Nat.le_of_ble_eq_true rfl, Nat.le_of_ble_eq_true rfl⟩) rfl hl.1 (Nat.le_of_ble_eq_true rfl) dX3_takeFound_14 ⟨Nat.le_of_ble_eq_true rfl, Nat.le_of_ble_eq_true rfl⟩) (fun r_3 er_3 => ?_)
      subst er_3
      refine va_csq (bn_roV (As := [.int (bh_at x q)]) (rest := []) ⟨hx, hb, hml, hown, hts⟩ (cc_findN l D c h ad ba nv km (bc_tfL C km b x q) (bh_at x q) hx1 hk24) (cwV 1 hts gX3_takeFound_X3_find rfl rfl rfl (by decide +kernel) ⟨Nat.le_of_ble_eq_true rfl, Nat.le_of_ble_eq_true rfl⟩) hK hI 0 2 rfl rfl rfl rfl hl.1 (Nat.le_of_ble_eq_true rfl) dX3_takeFound_17 ⟨Nat.le_of_ble_eq_true rfl, Nat.le_of_ble_eq_true rfl⟩) (fun r_4 er_4 => ?_)
      subst er_4
      refine lv_astoreN (lv' := [(5, .null), (4, .int (nI q)), (0, .ref h), (1, .ref (ba b 0)), (2, .long (x))]) hx hb dX3_takeFound_20 hl (by decide) rfl (fun ls hl => ?_)
      refine lv_aloadN hx hb dX3_takeFound_22 (lv_at hl 0 rfl) ?_
      refine lv_ifnullN (tgt := 82) hx hb dX3_takeFound_24 (by decide) ?_
      refine lv_iinc (v := nI (q + 1)) (lv' := [(4, .int (nI (q + 1))), (5, .null), (0, .ref h), (1, .ref (ba b 0)), (2, .long (x))]) hx hb dX3_takeFound_82 hl (k := 1) rfl (nI_1 _) (by decide) rfl (fun ls hl => ?_)
      refine lv_goto (tgt := 3) hx hb dX3_takeFound_85 (by decide) ?_
      exact ih_1 (q + 1) _ _ _ ⟨by omega, (by rw [q_s]; exact hI), lv_sub hl [0, 2, 3, 4] rfl⟩ (by show 8 - (q + 1) < 8 - q; omega)
    · obtain ⟨hj_1, hj_2, ej_⟩ := bh_ixb_some hx1
      refine lv_aload_n hx hb dX3_takeFound_10 rfl (lv_at hl 1 rfl) ?_
      refine lv_lload_n hx hb dX3_takeFound_11 rfl (lv_at hl 3 rfl) ?_
      refine lv_iload hx hb dX3_takeFound_12 (lv_at hl 0 rfl) ?_
      refine vp_callSi (bn_roS (As := [.long (x), .int (nI q)]) (rest := [.ref h]) ⟨hx, hb, hml, hown, hts⟩ (cc_at l (x) (q)) (va_cwS 2 hts gX3_takeFound_X2_at rfl rfl rfl (by decide +kernel) ⟨Nat.le_of_ble_eq_true rfl, Nat.le_of_ble_eq_true rfl⟩) rfl hl.1 (Nat.le_of_ble_eq_true rfl) dX3_takeFound_14 ⟨Nat.le_of_ble_eq_true rfl, Nat.le_of_ble_eq_true rfl⟩) (fun r_5 er_5 => ?_)
      subst er_5
      refine va_csq (bn_roV (As := [.int (bh_at x q)]) (rest := []) ⟨hx, hb, hml, hown, hts⟩ (by rw [ej_]; exact cc_find l D c h ad ba nv km (bc_tfL C km b x q) j_ hj_1 hj_2 hk24) (cwV 1 hts gX3_takeFound_X3_find rfl rfl rfl (by decide +kernel) ⟨Nat.le_of_ble_eq_true rfl, Nat.le_of_ble_eq_true rfl⟩) hK hI 0 2 rfl rfl rfl rfl hl.1 (Nat.le_of_ble_eq_true rfl) dX3_takeFound_17 ⟨Nat.le_of_ble_eq_true rfl, Nat.le_of_ble_eq_true rfl⟩) (fun r_6 er_6 => ?_)
      subst er_6
      refine lv_astore (lv' := [(5, .ref (ba j_ 0)), (4, .int (nI q)), (0, .ref h), (1, .ref (ba b 0)), (2, .long (x))]) hx hb dX3_takeFound_20 hl (by decide) rfl (fun ls hl => ?_)
      refine lv_aload hx hb dX3_takeFound_22 (lv_at hl 0 rfl) ?_
      refine lv_ifnull hx hb dX3_takeFound_24 ?_
      refine lv_aload hx hb dX3_takeFound_27 (lv_at hl 0 rfl) ?_
      refine bn_get (ci := 1) (v := .int (nI j_)) (C := RX1) (T := TX1) (N := 14) hx hb hts hinX1 hown hK hI (10 + (5 * (j_ - 1) + 0)) ((bh_cw_b hj_1 hj_2 0 (by decide)).trans rfl) rfl 0 (by decide) lk_91 rfl (rfl) dX3_takeFound_29 ?_
      refine lv_aload_n hx hb dX3_takeFound_32 rfl (lv_at hl 3 rfl) ?_
      refine bn_get (ci := 1) (v := .ref (ba b 1)) (C := RX1) (T := TX1) (N := 14) hx hb hts hinX1 hown hK hI (10 + (5 * (b - 1) + 0)) ((bh_cw_b hb1 hb2 0 (by decide)).trans rfl) rfl 10 (by decide) lk_223 rfl (rfl) dX3_takeFound_33 ?_
      refine lv_iload hx hb dX3_takeFound_36 (lv_at hl 1 rfl) ?_
      refine bn_iald (n := 8) (v := (bc_tfL C km b x q).2.2.1 10 b q) hx hb hK hI (10 + (5 * (b - 1) + 1)) 0 ((bh_cw_b hb1 hb2 1 (by decide)).trans rfl) rfl (by omega) (by first | decide | omega) (rfl) dX3_takeFound_38 ?_
      refine lv_icmp_le (tgt := 82) hx hb dX3_takeFound_39 (by decide) (fun c_7 => ?_) (fun c_7 => ?_)
      · have q_s : bc_tfL C km b x (q + 1) = bc_tfL C km b x q := by rw [bc_tfL, hx1]; exact if_pos c_7
        refine lv_iinc (v := nI (q + 1)) (lv' := [(4, .int (nI (q + 1))), (5, .ref (ba j_ 0)), (0, .ref h), (1, .ref (ba b 0)), (2, .long (x))]) hx hb dX3_takeFound_82 hl (k := 1) rfl (nI_1 _) (by decide) rfl (fun ls hl => ?_)
        refine lv_goto (tgt := 3) hx hb dX3_takeFound_85 (by decide) ?_
        exact ih_1 (q + 1) _ _ _ ⟨by omega, (by rw [q_s]; exact hI), lv_sub hl [0, 2, 3, 4] rfl⟩ (by show 8 - (q + 1) < 8 - q; omega)
      · have q_s : bc_tfL C km b x (q + 1) = bc_w (bc_q (bc_f (bc_tfL C km b x q) 8 b ((bc_tfL C km b x q).2.1 8 b ||| bh_bit q)) 10 b q (nI j_)) b q ((bc_tfL C km b x q).2.2.2 j_ q) := by rw [bc_tfL, hx1]; exact if_neg c_7
        refine lv_aload_n hx hb dX3_takeFound_42 rfl (lv_at hl 3 rfl) ?_
        refine lv_dup hx hb dX3_takeFound_43 rfl ?_
        refine bn_get (ci := 1) (v := .int ((bc_tfL C km b x q).2.1 8 b)) (C := RX1) (T := TX1) (N := 14) hx hb hts hinX1 hown hK hI (10 + (5 * (b - 1) + 0)) ((bh_cw_b hb1 hb2 0 (by decide)).trans rfl) rfl 8 (by decide) lk_148 rfl (rfl) dX3_takeFound_44 ?_
        refine lv_iconst (v := nI 1) hx hb dX3_takeFound_47 (by decide) ?_
        refine lv_iload hx hb dX3_takeFound_48 (lv_at hl 1 rfl) ?_
        refine lv_ishl hx hb dX3_takeFound_50 ?_
        refine lv_ior hx hb dX3_takeFound_51 ?_
        refine bn_put (ci := 1) (v := .int (((bc_tfL C km b x q).2.1 8 b) ||| ((nI 1) <<< ((nI q) &&& 31)))) (ty := .int) (C := RX1) (T := TX1) (N := 14) (ws' := bh_cw h ad ba c nv km (bc_f (bc_tfL C km b x q) 8 b (((bc_tfL C km b x q).2.1 8 b) ||| ((nI 1) <<< ((nI q) &&& 31))))) hx hb hts hinX1 tyX1 tyX1_ok nmX1 hown hK hI (10 + (5 * (b - 1) + 0)) ((bh_cw_b hb1 hb2 0 (by decide)).trans rfl) rfl 8 (by decide) lk_148 rfl rfl rfl rfl rfl (Nat.le_of_ble_eq_true rfl) dX3_takeFound_52 (bh_cw_f 8 _ (by decide) hb1 hb2) (fun H locs hI => ?_)
        refine lv_aload_n hx hb dX3_takeFound_55 rfl (lv_at hl 3 rfl) ?_
        refine bn_get (ci := 1) (v := .ref (ba b 1)) (C := RX1) (T := TX1) (N := 14) hx hb hts hinX1 hown hK hI (10 + (5 * (b - 1) + 0)) ((bh_cw_b hb1 hb2 0 (by decide)).trans rfl) rfl 10 (by decide) lk_223 rfl (rfl) dX3_takeFound_56 ?_
        refine lv_iload hx hb dX3_takeFound_59 (lv_at hl 1 rfl) ?_
        refine lv_aload hx hb dX3_takeFound_61 (lv_at hl 0 rfl) ?_
        refine bn_get (ci := 1) (v := .int (nI j_)) (C := RX1) (T := TX1) (N := 14) hx hb hts hinX1 hown hK hI (10 + (5 * (j_ - 1) + 0)) ((bh_cw_b hj_1 hj_2 0 (by decide)).trans rfl) rfl 0 (by decide) lk_91 rfl (rfl) dX3_takeFound_63 ?_
        refine bn_iast (n := 8) (ws' := bh_cw h ad ba c nv km (bc_q (bc_f (bc_tfL C km b x q) 8 b (((bc_tfL C km b x q).2.1 8 b) ||| ((nI 1) <<< ((nI q) &&& 31)))) 10 b q (nI j_))) hx hb hK hI (10 + (5 * (b - 1) + 1)) 0 ((bh_cw_b hb1 hb2 1 (by decide)).trans rfl) rfl (by omega) (by first | decide | omega) dX3_takeFound_66 (bh_cw_q1 _ _ hb1 hb2) (fun H locs hI => ?_)
        refine lv_aload_n hx hb dX3_takeFound_67 rfl (lv_at hl 3 rfl) ?_
        refine bn_get (ci := 1) (v := .ref (ba b 2)) (C := RX1) (T := TX1) (N := 14) hx hb hts hinX1 hown hK hI (10 + (5 * (b - 1) + 0)) ((bh_cw_b hb1 hb2 0 (by decide)).trans rfl) rfl 11 (by decide) lk_81 rfl (rfl) dX3_takeFound_68 ?_
        refine lv_iload hx hb dX3_takeFound_71 (lv_at hl 1 rfl) ?_
        refine lv_aload hx hb dX3_takeFound_73 (lv_at hl 0 rfl) ?_
        refine bn_get (ci := 1) (v := .ref (ba j_ 2)) (C := RX1) (T := TX1) (N := 14) hx hb hts hinX1 hown hK hI (10 + (5 * (j_ - 1) + 0)) ((bh_cw_b hj_1 hj_2 0 (by decide)).trans rfl) rfl 11 (by decide) lk_81 rfl (rfl) dX3_takeFound_75 ?_
        refine lv_iload hx hb dX3_takeFound_78 (lv_at hl 1 rfl) ?_
        refine bn_lald (n := 8) (v := (bc_tfL C km b x q).2.2.2 j_ q) hx hb hK hI (10 + (5 * (j_ - 1) + 2)) 1 ((bh_cw_b hj_1 hj_2 2 (by decide)).trans rfl) rfl (by omega) (by first | decide | omega) (rfl) dX3_takeFound_80 ?_
        refine bn_last (n := 8) (ws' := bh_cw h ad ba c nv km (bc_w (bc_q (bc_f (bc_tfL C km b x q) 8 b (((bc_tfL C km b x q).2.1 8 b) ||| ((nI 1) <<< ((nI q) &&& 31)))) 10 b q (nI j_)) b q ((bc_tfL C km b x q).2.2.2 j_ q))) hx hb hK hI (10 + (5 * (b - 1) + 2)) 1 ((bh_cw_b hb1 hb2 2 (by decide)).trans rfl) rfl (by omega) (by first | decide | omega) dX3_takeFound_81 (bh_cw_w _ _ hb1 hb2) (fun H locs hI => ?_)
        refine lv_iinc (v := nI (q + 1)) (lv' := [(4, .int (nI (q + 1))), (5, .ref (ba j_ 0)), (0, .ref h), (1, .ref (ba b 0)), (2, .long (x))]) hx hb dX3_takeFound_82 hl (k := 1) rfl (nI_1 _) (by decide) rfl (fun ls hl => ?_)
        refine lv_goto (tgt := 3) hx hb dX3_takeFound_85 (by decide) ?_
        exact ih_1 (q + 1) _ _ _ ⟨by omega, (by rw [q_s]; exact hI), lv_sub hl [0, 2, 3, 4] rfl⟩ (by show 8 - (q + 1) < 8 - q; omega)
set_option maxHeartbeats 4000000 in
set_option maxRecDepth 100000 in
theorem cc_readAnswerComes (l : Launch) (D : va_G) (c : bh_C) (h : Nat) (ad : Nat → Nat) (ba : Nat → Nat → Nat) (nv km : Nat) (sz : Nat) (C : cS) (b : Nat) (hb1 : 1 ≤ b) (hb2 : b ≤ km) (v : Nat) (x : Int64) (g : Nat) (hg : C.2.1 4 b = nI g) (hg24 : g ≤ 24) (ha : C.1.1 15 ≤ 400) (hn : nv ≤ 7) (hk24 : km ≤ 24) : Met l yX3_readAnswerComes wsX3_readAnswerComes ({ frames := 4, cells := 0, slots := 0, locals := 95 }) (va_Pc [.ref h, .ref (ba b 0), .int (nI v), .long (x)] (bh_prm D c (bh_cw h ad ba c nv km (C)) sz)) (va_Qv (fun u : cS => u = bc_ra C nv km b v g x) (fun u t => bh_post D c (bh_cw h ad ba c nv km u) (va_A (bh_cw h ad ba c nv km (C)) sz) t) (va_A (bh_cw h ad ba c nv km (C)) sz)) 0 0 (va_A (bh_cw h ad ba c nv km (C)) sz) := by
  refine Met.ofW (cc := cX3_readAnswerComes) (maxL := 6) (ret := none) (by decide) rfl ?_
  intro p e s m args below meth c0 s₁ B hml hv
  obtain ⟨rfl, hsz, hP, hK, hD0⟩ := hv
  have hx := B.exec
  have hb := B.bytes
  have hr := B.returns
  have hts := atoms_spec (ws := wsX3_readAnswerComes) B.pre
  have hown : s.vm.findClass RX3 = some m.cls := findClass_of_methodNamed B.named
  have hlocks := B.notSynchronized
  have hinX1 : ∀ w ∈ wsX10, w ∈ wsX3_readAnswerComes := fun _ h => List.mem_cons_of_mem _ (List.mem_append_left _ (List.mem_append_left _ (List.mem_append_right _ h)))
  have hinX3 : ∀ w ∈ wsX30, w ∈ wsX3_readAnswerComes := fun _ h => List.mem_cons_of_mem _ (List.mem_append_left _ (List.mem_append_right _ h))
  have hinX0 : ∀ w ∈ wsX00, w ∈ wsX3_readAnswerComes := fun _ h => List.mem_cons_of_mem _ (List.mem_append_right _ h)
  have lk_72 : (Cond.fieldLink RX3 72 "BallotHouse$Ballot" "state" "I").before _ s = true := hts _ (by decide +kernel)
  have lk_97 : (Cond.fieldLink RX3 97 "BallotHouse$Ballot" "readAnswers" "I").before _ s = true := hts _ (by decide +kernel)
  subst hsz
  have hI := bh_start hP hD0
  generalize hAe : va_A (bh_cw h ad ba c nv km (C)) s.heap.size = A at hI ⊢
  have hA : ∀ q : Nat, s.heap.size ≤ q → A q := fun q h => by rw [← hAe]; exact Or.inr h
  clear hP hD0 hAe
  have hl := lv_entry ([.ref h, .ref (ba b 0), .int (nI v), .long (x)]) (n := 6) (Nat.le_of_ble_eq_true rfl)
  rw [lg_entry_eq]
  generalize (lg_sl ([.ref h, .ref (ba b 0), .int (nI v), .long (x)]) ++ List.replicate (6 - (lg_sl ([.ref h, .ref (ba b 0), .int (nI v), .long (x)])).length) Slot.unset).toArray = ls at hl ⊢
  have hl : lv_has ls 6 [(0, .ref h), (1, .ref (ba b 0)), (2, .int (nI v)), (3, .long (x))] := hl
  refine lv_iconst (v := nI 1) hx hb dX3_readAnswerComes_0 (by decide) ?_
  refine lv_iload_n hx hb dX3_readAnswerComes_1 rfl (lv_at hl 2 rfl) ?_
  refine lv_ishl hx hb dX3_readAnswerComes_2 ?_
  refine lv_istore (lv' := [(5, .int ((nI 1) <<< ((nI v) &&& 31))), (0, .ref h), (1, .ref (ba b 0)), (2, .int (nI v)), (3, .long (x))]) hx hb dX3_readAnswerComes_3 hl (by decide) rfl (fun ls hl => ?_)
  refine lv_aload_n hx hb dX3_readAnswerComes_5 rfl (lv_at hl 2 rfl) ?_
  refine bn_get (ci := 1) (v := .int (C.2.1 6 b)) (C := RX1) (T := TX1) (N := 14) hx hb hts hinX1 hown hK hI (10 + (5 * (b - 1) + 0)) ((bh_cw_b hb1 hb2 0 (by decide)).trans rfl) rfl 6 (by decide) lk_72 rfl (rfl) dX3_readAnswerComes_6 ?_
  refine lv_iconst (v := nI 1) hx hb dX3_readAnswerComes_9 (by decide) ?_
  refine lv_icmp_ne (tgt := 45) hx hb dX3_readAnswerComes_10 (by decide) (fun c_1 => ?_) (fun c_1 => ?_)
  · exact bn_retv hx hb hr hlocks hK (C) hI (by unfold bc_ra; rw [if_neg (fun w => c_1 w.1)]) dX3_readAnswerComes_45
  · refine lv_aload_n hx hb dX3_readAnswerComes_13 rfl (lv_at hl 2 rfl) ?_
    refine bn_get (ci := 1) (v := .int (C.2.1 7 b)) (C := RX1) (T := TX1) (N := 14) hx hb hts hinX1 hown hK hI (10 + (5 * (b - 1) + 0)) ((bh_cw_b hb1 hb2 0 (by decide)).trans rfl) rfl 7 (by decide) lk_97 rfl (rfl) dX3_readAnswerComes_14 ?_
    refine lv_iload hx hb dX3_readAnswerComes_17 (lv_at hl 0 rfl) ?_
    refine lv_iand hx hb dX3_readAnswerComes_19 ?_
    refine lv_if_ne (tgt := 45) hx hb dX3_readAnswerComes_20 (by decide) (fun c_2 => ?_) (fun c_2 => ?_)
    · exact bn_retv hx hb hr hlocks hK (C) hI (by unfold bc_ra; rw [if_neg (fun w => c_2 w.2)]) dX3_readAnswerComes_45
    · refine lv_aload_n hx hb dX3_readAnswerComes_23 rfl (lv_at hl 2 rfl) ?_
      refine lv_dup hx hb dX3_readAnswerComes_24 rfl ?_
      refine bn_get (ci := 1) (v := .int (C.2.1 7 b)) (C := RX1) (T := TX1) (N := 14) hx hb hts hinX1 hown hK hI (10 + (5 * (b - 1) + 0)) ((bh_cw_b hb1 hb2 0 (by decide)).trans rfl) rfl 7 (by decide) lk_97 rfl (rfl) dX3_readAnswerComes_25 ?_
      refine lv_iload hx hb dX3_readAnswerComes_28 (lv_at hl 0 rfl) ?_
      refine lv_ior hx hb dX3_readAnswerComes_30 ?_
      refine bn_put (ci := 1) (v := .int ((C.2.1 7 b) ||| ((nI 1) <<< ((nI v) &&& 31)))) (ty := .int) (C := RX1) (T := TX1) (N := 14) (ws' := bh_cw h ad ba c nv km (bc_f C 7 b ((C.2.1 7 b) ||| ((nI 1) <<< ((nI v) &&& 31))))) hx hb hts hinX1 tyX1 tyX1_ok nmX1 hown hK hI (10 + (5 * (b - 1) + 0)) ((bh_cw_b hb1 hb2 0 (by decide)).trans rfl) rfl 7 (by decide) lk_97 rfl rfl rfl rfl rfl (Nat.le_of_ble_eq_true rfl) dX3_readAnswerComes_31 (bh_cw_f 7 _ (by decide) hb1 hb2) (fun H locs hI => ?_)
      refine lv_aload_n hx hb dX3_readAnswerComes_34 rfl (lv_at hl 1 rfl) ?_
      refine lv_aload_n hx hb dX3_readAnswerComes_35 rfl (lv_at hl 2 rfl) ?_
      refine lv_lload_n hx hb dX3_readAnswerComes_36 rfl (lv_at hl 4 rfl) ?_
      refine bn_muv (bn_muV (As := [.ref (ba b 0), .long (x)]) (rest := []) ⟨hx, hb, hml, hown, hts⟩ (cc_takeFound l D c h ad ba nv km _ (bc_f C 7 b (C.2.1 7 b ||| bh_bit v)) b hb1 hb2 x hk24) (cwV 2 hts gX3_readAnswerComes_X3_takeFound rfl rfl rfl (by decide +kernel) ⟨Nat.le_of_ble_eq_true rfl, Nat.le_of_ble_eq_true rfl⟩) hK hI 0 2 rfl rfl rfl rfl hl.1 (Nat.le_of_ble_eq_true rfl) dX3_readAnswerComes_37 ⟨Nat.le_of_ble_eq_true rfl, Nat.le_of_ble_eq_true rfl⟩) hI hA (fun u_3 H locs eu_3 hI => ?_)
      subst eu_3
      refine lv_aload_n hx hb dX3_readAnswerComes_40 rfl (lv_at hl 1 rfl) ?_
      refine lv_aload_n hx hb dX3_readAnswerComes_41 rfl (lv_at hl 2 rfl) ?_
      refine bn_muv (bn_muV (As := [.ref (ba b 0)]) (rest := []) ⟨hx, hb, hml, hown, hts⟩ (cc_goOn l D c h ad ba nv km _ (bc_ra1 C km b v x) b hb1 hb2 g (by rw [bc_ra1_4]; exact hg) hg24 (by rw [bc_ra1_1]; exact ha) hn hk24) (cwV 1 hts gX3_readAnswerComes_X3_goOn rfl rfl rfl (by decide +kernel) ⟨Nat.le_of_ble_eq_true rfl, Nat.le_of_ble_eq_true rfl⟩) hK hI 0 2 rfl rfl rfl rfl hl.1 (Nat.le_of_ble_eq_true rfl) dX3_readAnswerComes_42 ⟨Nat.le_of_ble_eq_true rfl, Nat.le_of_ble_eq_true rfl⟩) hI hA (fun u_4 H locs eu_4 hI => ?_)
      subst eu_4
      exact bn_retv hx hb hr hlocks hK (bc_go (bc_ra1 C km b v x) nv b g) hI (by unfold bc_ra; rw [if_pos ⟨c_1, c_2⟩]) dX3_readAnswerComes_45
set_option maxHeartbeats 4000000 in
set_option maxRecDepth 100000 in
theorem cc_voteComes (l : Launch) (D : va_G) (c : bh_C) (h : Nat) (ad : Nat → Nat) (ba : Nat → Nat → Nat) (nv km : Nat) (sz : Nat) (C : cS) (b : Nat) (hb1 : 1 ≤ b) (hb2 : b ≤ km) (v q : Nat) (hv : v < nv) (hq : q < 8) (ha : C.1.1 15 ≤ 400) (hn : nv ≤ 7) : Met l yX3_voteComes wsX3_voteComes ({ frames := 1, cells := 0, slots := 0, locals := 26 }) (va_Pc [.ref h, .ref (ba b 0), .int (nI v), .int (nI q)] (bh_prm D c (bh_cw h ad ba c nv km (C)) sz)) (va_Qv (fun u : cS => u = bc_vo C b v q) (fun u t => bh_post D c (bh_cw h ad ba c nv km u) (va_A (bh_cw h ad ba c nv km (C)) sz) t) (va_A (bh_cw h ad ba c nv km (C)) sz)) 0 0 (va_A (bh_cw h ad ba c nv km (C)) sz) := by
  refine Met.ofW (cc := cX3_voteComes) (maxL := 4) (ret := none) (by decide) rfl ?_
  intro p e s m args below meth c0 s₁ B hml hv
  obtain ⟨rfl, hsz, hP, hK, hD0⟩ := hv
  have hx := B.exec
  have hb := B.bytes
  have hr := B.returns
  have hts := atoms_spec (ws := wsX3_voteComes) B.pre
  have hown : s.vm.findClass RX3 = some m.cls := findClass_of_methodNamed B.named
  have hlocks := B.notSynchronized
  have hinX3 : ∀ w ∈ wsX30, w ∈ wsX3_voteComes := fun _ h => List.mem_cons_of_mem _ (List.mem_append_left _ (List.mem_append_left _ (List.mem_append_right _ h)))
  have hinX1 : ∀ w ∈ wsX10, w ∈ wsX3_voteComes := fun _ h => List.mem_cons_of_mem _ (List.mem_append_left _ (List.mem_append_right _ h))
  have hinX0 : ∀ w ∈ wsX00, w ∈ wsX3_voteComes := fun _ h => List.mem_cons_of_mem _ (List.mem_append_right _ h)
  have lk_22 : (Cond.fieldLink RX3 22 "BallotHouse" "promises" "[I").before _ s = true := hts _ (by decide +kernel)
  have lk_26 : (Cond.fieldLink RX3 26 "BallotHouse" "votes" "[J").before _ s = true := hts _ (by decide +kernel)
  have lk_39 : (Cond.fieldLink RX3 39 "BallotHouse" "letters" "LBallotHouse$Air;").before _ s = true := hts _ (by decide +kernel)
  have lk_91 : (Cond.fieldLink RX3 91 "BallotHouse$Ballot" "number" "I").before _ s = true := hts _ (by decide +kernel)
  have lk_230 : (Cond.fieldLink RX3 230 "BallotHouse$Ballot" "everVoted" "[I").before _ s = true := hts _ (by decide +kernel)
  subst hsz
  have hI := bh_start hP hD0
  generalize hAe : va_A (bh_cw h ad ba c nv km (C)) s.heap.size = A at hI ⊢
  have hA : ∀ q : Nat, s.heap.size ≤ q → A q := fun q h => by rw [← hAe]; exact Or.inr h
  clear hP hD0 hAe
  have hl := lv_entry ([.ref h, .ref (ba b 0), .int (nI v), .int (nI q)]) (n := 4) (Nat.le_of_ble_eq_true rfl)
  rw [lg_entry_eq]
  generalize (lg_sl ([.ref h, .ref (ba b 0), .int (nI v), .int (nI q)]) ++ List.replicate (4 - (lg_sl ([.ref h, .ref (ba b 0), .int (nI v), .int (nI q)])).length) Slot.unset).toArray = ls at hl ⊢
  have hl : lv_has ls 4 [(0, .ref h), (1, .ref (ba b 0)), (2, .int (nI v)), (3, .int (nI q))] := hl
  have hx1 := bh_ix_nI hv (by omega)
  have hx2 := bh_ix_nI hq (by omega)
  refine lv_aload_n hx hb dX3_voteComes_0 rfl (lv_at hl 0 rfl) ?_
  refine lv_iload_n hx hb dX3_voteComes_1 rfl (lv_at hl 2 rfl) ?_
  refine vp_callSi (bn_roV (As := [.int (nI v)]) (rest := []) ⟨hx, hb, hml, hown, hts⟩ (cc_isVoter l D c h ad ba nv km (C) (nI v) hn) (cwV 1 hts gX3_voteComes_X3_isVoter rfl rfl rfl (by decide +kernel) ⟨Nat.le_of_ble_eq_true rfl, Nat.le_of_ble_eq_true rfl⟩) hK hI 0 2 rfl rfl rfl rfl hl.1 (Nat.le_of_ble_eq_true rfl) dX3_voteComes_2 ⟨Nat.le_of_ble_eq_true rfl, Nat.le_of_ble_eq_true rfl⟩) (fun r_1 er_1 => ?_)
  obtain rfl : r_1 = nI 1 := by rw [er_1, hx1]; rfl
  refine lv_if_eq (tgt := 85) hx hb dX3_voteComes_5 (by decide) (fun c_2 => ?_) (fun c_2 => ?_)
  · first | exact absurd c_2 (by decide) | exact absurd (by decide) c_2
  · refine lv_iload_n hx hb dX3_voteComes_8 rfl (lv_at hl 3 rfl) ?_
    refine vp_callSi (bn_roS (As := [.int (nI q)]) (rest := []) ⟨hx, hb, hml, hown, hts⟩ (cc_isPlace l (nI q)) (va_cwS 1 hts gX3_voteComes_X3_isPlace rfl rfl rfl (by decide +kernel) ⟨Nat.le_of_ble_eq_true rfl, Nat.le_of_ble_eq_true rfl⟩) rfl hl.1 (Nat.le_of_ble_eq_true rfl) dX3_voteComes_9 ⟨Nat.le_of_ble_eq_true rfl, Nat.le_of_ble_eq_true rfl⟩) (fun r_3 er_3 => ?_)
    obtain rfl : r_3 = nI 1 := by rw [er_3, hx2]; rfl
    refine lv_if_eq (tgt := 85) hx hb dX3_voteComes_12 (by decide) (fun c_4 => ?_) (fun c_4 => ?_)
    · first | exact absurd c_4 (by decide) | exact absurd (by decide) c_4
    · refine lv_aload_n hx hb dX3_voteComes_15 rfl (lv_at hl 0 rfl) ?_
      refine bn_get (ci := 2) (v := .ref (ad 1)) (C := RX3) (T := TX3) (N := 8) hx hb hts hinX3 hown hK hI 0 rfl rfl 1 (by decide) lk_22 rfl (rfl) dX3_voteComes_16 ?_
      refine lv_iload_n hx hb dX3_voteComes_19 rfl (lv_at hl 2 rfl) ?_
      refine bn_iald (n := nv) (v := C.1.2.2.1 1 v) hx hb hK hI 1 0 rfl rfl (by omega) (by first | decide | omega) (rfl) dX3_voteComes_20 ?_
      refine lv_aload_n hx hb dX3_voteComes_21 rfl (lv_at hl 1 rfl) ?_
      refine bn_get (ci := 1) (v := .int (nI b)) (C := RX1) (T := TX1) (N := 14) hx hb hts hinX1 hown hK hI (10 + (5 * (b - 1) + 0)) ((bh_cw_b hb1 hb2 0 (by decide)).trans rfl) rfl 0 (by decide) lk_91 rfl (rfl) dX3_voteComes_22 ?_
      refine lv_icmp_gt (tgt := 85) hx hb dX3_voteComes_25 (by decide) (fun c_5 => ?_) (fun c_5 => ?_)
      · exact bn_retv hx hb hr hlocks hK (C) hI (by unfold bc_vo; rw [if_neg (Int32.not_le.mpr c_5)]) dX3_voteComes_85
      · refine lv_aload_n hx hb dX3_voteComes_28 rfl (lv_at hl 0 rfl) ?_
        refine bn_get (ci := 2) (v := .ref (ad 1)) (C := RX3) (T := TX3) (N := 8) hx hb hts hinX3 hown hK hI 0 rfl rfl 1 (by decide) lk_22 rfl (rfl) dX3_voteComes_29 ?_
        refine lv_iload_n hx hb dX3_voteComes_32 rfl (lv_at hl 2 rfl) ?_
        refine lv_aload_n hx hb dX3_voteComes_33 rfl (lv_at hl 1 rfl) ?_
        refine bn_get (ci := 1) (v := .int (nI b)) (C := RX1) (T := TX1) (N := 14) hx hb hts hinX1 hown hK hI (10 + (5 * (b - 1) + 0)) ((bh_cw_b hb1 hb2 0 (by decide)).trans rfl) rfl 0 (by decide) lk_91 rfl (rfl) dX3_voteComes_34 ?_
        refine bn_iast (n := nv) (ws' := bh_cw h ad ba c nv km (bc_r C 1 v (nI b))) hx hb hK hI 1 0 rfl rfl (by omega) (by first | decide | omega) dX3_voteComes_37 rfl (fun H locs hI => ?_)
        refine lv_aload_n hx hb dX3_voteComes_38 rfl (lv_at hl 0 rfl) ?_
        refine bn_get (ci := 2) (v := .ref (ad 2)) (C := RX3) (T := TX3) (N := 8) hx hb hts hinX3 hown hK hI 0 rfl rfl 2 (by decide) lk_26 rfl (rfl) dX3_voteComes_39 ?_
        refine lv_iload_n hx hb dX3_voteComes_42 rfl (lv_at hl 2 rfl) ?_
        refine lv_aload_n hx hb dX3_voteComes_43 rfl (lv_at hl 0 rfl) ?_
        refine bn_get (ci := 2) (v := .ref (ad 2)) (C := RX3) (T := TX3) (N := 8) hx hb hts hinX3 hown hK hI 0 rfl rfl 2 (by decide) lk_26 rfl (rfl) dX3_voteComes_44 ?_
        refine lv_iload_n hx hb dX3_voteComes_47 rfl (lv_at hl 2 rfl) ?_
        refine bn_lald (n := nv) (v := C.1.2.2.2 2 v) hx hb hK hI 2 1 rfl rfl (by omega) (by first | decide | omega) (rfl) dX3_voteComes_48 ?_
        refine lv_iload_n hx hb dX3_voteComes_49 rfl (lv_at hl 3 rfl) ?_
        refine lv_aload_n hx hb dX3_voteComes_50 rfl (lv_at hl 1 rfl) ?_
        refine bn_get (ci := 1) (v := .int (nI b)) (C := RX1) (T := TX1) (N := 14) hx hb hts hinX1 hown hK hI (10 + (5 * (b - 1) + 0)) ((bh_cw_b hb1 hb2 0 (by decide)).trans rfl) rfl 0 (by decide) lk_91 rfl (rfl) dX3_voteComes_51 ?_
        refine vp_callSl (bn_roS (As := [.long (C.1.2.2.2 2 v), .int (nI q), .int (nI b)]) (rest := [.int (nI v), .ref (ad 2)]) ⟨hx, hb, hml, hown, hts⟩ (cc_with l (C.1.2.2.2 2 v) q (nI b)) (va_cwS 3 hts gX3_voteComes_X2_with rfl rfl rfl (by decide +kernel) ⟨Nat.le_of_ble_eq_true rfl, Nat.le_of_ble_eq_true rfl⟩) rfl hl.1 (Nat.le_of_ble_eq_true rfl) dX3_voteComes_54 ⟨Nat.le_of_ble_eq_true rfl, Nat.le_of_ble_eq_true rfl⟩) (fun r_6 er_6 => ?_)
        subst er_6
        refine bn_last (n := nv) (ws' := bh_cw h ad ba c nv km (bc_l (bc_r C 1 v (nI b)) 2 v (bh_wi (C.1.2.2.2 2 v) q (nI b)))) hx hb hK hI 2 1 rfl rfl (by omega) (by first | decide | omega) dX3_voteComes_57 rfl (fun H locs hI => ?_)
        refine lv_aload_n hx hb dX3_voteComes_58 rfl (lv_at hl 1 rfl) ?_
        refine bn_get (ci := 1) (v := .ref (ba b 4)) (C := RX1) (T := TX1) (N := 14) hx hb hts hinX1 hown hK hI (10 + (5 * (b - 1) + 0)) ((bh_cw_b hb1 hb2 0 (by decide)).trans rfl) rfl 13 (by decide) lk_230 rfl (rfl) dX3_voteComes_59 ?_
        refine lv_iload_n hx hb dX3_voteComes_62 rfl (lv_at hl 3 rfl) ?_
        refine lv_dup2_11 hx hb dX3_voteComes_63 rfl rfl ?_
        refine bn_iald (n := 8) (v := C.2.2.1 13 b q) hx hb hK hI (10 + (5 * (b - 1) + 4)) 0 ((bh_cw_b hb1 hb2 4 (by decide)).trans rfl) rfl (by omega) (by first | decide | omega) (rfl) dX3_voteComes_64 ?_
        refine lv_iconst (v := nI 1) hx hb dX3_voteComes_65 (by decide) ?_
        refine lv_iload_n hx hb dX3_voteComes_66 rfl (lv_at hl 2 rfl) ?_
        refine lv_ishl hx hb dX3_voteComes_67 ?_
        refine lv_ior hx hb dX3_voteComes_68 ?_
        refine bn_iast (n := 8) (ws' := bh_cw h ad ba c nv km (bc_q (bc_l (bc_r C 1 v (nI b)) 2 v (bh_wi (C.1.2.2.2 2 v) q (nI b))) 13 b q ((C.2.2.1 13 b q) ||| ((nI 1) <<< ((nI v) &&& 31))))) hx hb hK hI (10 + (5 * (b - 1) + 4)) 0 ((bh_cw_b hb1 hb2 4 (by decide)).trans rfl) rfl (by omega) (by first | decide | omega) dX3_voteComes_69 (bh_cw_q4 _ _ hb1 hb2) (fun H locs hI => ?_)
        refine lv_aload_n hx hb dX3_voteComes_70 rfl (lv_at hl 0 rfl) ?_
        refine bn_get (ci := 2) (v := .ref (ad 7)) (C := RX3) (T := TX3) (N := 8) hx hb hts hinX3 hown hK hI 0 rfl rfl 7 (by decide) lk_39 rfl (rfl) dX3_voteComes_71 ?_
        refine lv_iconst (v := nI 5) hx hb dX3_voteComes_74 (by decide) ?_
        refine lv_aload_n hx hb dX3_voteComes_75 rfl (lv_at hl 1 rfl) ?_
        refine bn_get (ci := 1) (v := .int (nI b)) (C := RX1) (T := TX1) (N := 14) hx hb hts hinX1 hown hK hI (10 + (5 * (b - 1) + 0)) ((bh_cw_b hb1 hb2 0 (by decide)).trans rfl) rfl 0 (by decide) lk_91 rfl (rfl) dX3_voteComes_76 ?_
        refine lv_iload_n hx hb dX3_voteComes_79 rfl (lv_at hl 2 rfl) ?_
        refine lv_iload_n hx hb dX3_voteComes_80 rfl (lv_at hl 3 rfl) ?_
        refine lv_lconst (v := 0) hx hb dX3_voteComes_81 (by decide) ?_
        refine bn_muv (bn_muV (As := [.int (nI 5), .int (nI b), .int (nI v), .int (nI q), .long (0)]) (rest := []) ⟨hx, hb, hml, hown, hts⟩ (cc_send l D c h ad ba nv km _ (bc_q (bc_l (bc_r C 1 v (nI b)) 2 v (bh_wi (C.1.2.2.2 2 v) q (nI b))) 13 b q ((C.2.2.1 13 b q) ||| ((nI 1) <<< ((nI v) &&& 31)))) (nI 5) (nI b) (nI v) (nI q) (0) (ha)) (cwV 5 hts gX3_voteComes_X0_send rfl rfl rfl (by decide +kernel) ⟨Nat.le_of_ble_eq_true rfl, Nat.le_of_ble_eq_true rfl⟩) hK hI 4 0 rfl rfl rfl rfl hl.1 (Nat.le_of_ble_eq_true rfl) dX3_voteComes_82 ⟨Nat.le_of_ble_eq_true rfl, Nat.le_of_ble_eq_true rfl⟩) hI hA (fun u_7 H locs eu_7 hI => ?_)
        subst eu_7
        exact bn_retv hx hb hr hlocks hK (bc_sd (bc_q (bc_l (bc_r C 1 v (nI b)) 2 v (bh_wi (C.1.2.2.2 2 v) q (nI b))) 13 b q ((C.2.2.1 13 b q) ||| ((nI 1) <<< ((nI v) &&& 31)))) (nI 5) (nI b) (nI v) (nI q) 0) hI (by unfold bc_vo; rw [if_pos (Int32.not_lt.mp c_5)]; rfl) dX3_voteComes_85
set_option maxHeartbeats 4000000 in
set_option maxRecDepth 100000 in
theorem cc_voteAnswerComes (l : Launch) (D : va_G) (c : bh_C) (h : Nat) (ad : Nat → Nat) (ba : Nat → Nat → Nat) (nv km : Nat) (sz : Nat) (C : cS) (b : Nat) (hb1 : 1 ≤ b) (hb2 : b ≤ km) (v q : Nat) (hq : q < 8) (g : Nat) (hg : C.2.1 4 b = nI g) (hg24 : g ≤ 24) (ha : C.1.1 15 ≤ 400) (hn : nv ≤ 7) (hk24 : km ≤ 24) : Met l yX3_voteAnswerComes wsX3_voteAnswerComes ({ frames := 4, cells := 0, slots := 0, locals := 95 }) (va_Pc [.ref h, .ref (ba b 0), .int (nI v), .int (nI q)] (bh_prm D c (bh_cw h ad ba c nv km (C)) sz)) (va_Qv (fun u : cS => u = bc_va C nv b v q g) (fun u t => bh_post D c (bh_cw h ad ba c nv km u) (va_A (bh_cw h ad ba c nv km (C)) sz) t) (va_A (bh_cw h ad ba c nv km (C)) sz)) 0 0 (va_A (bh_cw h ad ba c nv km (C)) sz) := by
  refine Met.ofW (cc := cX3_voteAnswerComes) (maxL := 4) (ret := none) (by decide) rfl ?_
  intro p e s m args below meth c0 s₁ B hml hv
  obtain ⟨rfl, hsz, hP, hK, hD0⟩ := hv
  have hx := B.exec
  have hb := B.bytes
  have hr := B.returns
  have hts := atoms_spec (ws := wsX3_voteAnswerComes) B.pre
  have hown : s.vm.findClass RX3 = some m.cls := findClass_of_methodNamed B.named
  have hlocks := B.notSynchronized
  have hinX1 : ∀ w ∈ wsX10, w ∈ wsX3_voteAnswerComes := fun _ h => List.mem_cons_of_mem _ (List.mem_append_left _ (List.mem_append_left _ (List.mem_append_right _ h)))
  have hinX3 : ∀ w ∈ wsX30, w ∈ wsX3_voteAnswerComes := fun _ h => List.mem_cons_of_mem _ (List.mem_append_left _ (List.mem_append_right _ h))
  have hinX0 : ∀ w ∈ wsX00, w ∈ wsX3_voteAnswerComes := fun _ h => List.mem_cons_of_mem _ (List.mem_append_right _ h)
  have lk_72 : (Cond.fieldLink RX3 72 "BallotHouse$Ballot" "state" "I").before _ s = true := hts _ (by decide +kernel)
  have lk_154 : (Cond.fieldLink RX3 154 "BallotHouse$Ballot" "voteAnswers" "[I").before _ s = true := hts _ (by decide +kernel)
  subst hsz
  have hI := bh_start hP hD0
  generalize hAe : va_A (bh_cw h ad ba c nv km (C)) s.heap.size = A at hI ⊢
  have hA : ∀ q : Nat, s.heap.size ≤ q → A q := fun q h => by rw [← hAe]; exact Or.inr h
  clear hP hD0 hAe
  have hl := lv_entry ([.ref h, .ref (ba b 0), .int (nI v), .int (nI q)]) (n := 4) (Nat.le_of_ble_eq_true rfl)
  rw [lg_entry_eq]
  generalize (lg_sl ([.ref h, .ref (ba b 0), .int (nI v), .int (nI q)]) ++ List.replicate (4 - (lg_sl ([.ref h, .ref (ba b 0), .int (nI v), .int (nI q)])).length) Slot.unset).toArray = ls at hl ⊢
  have hl : lv_has ls 4 [(0, .ref h), (1, .ref (ba b 0)), (2, .int (nI v)), (3, .int (nI q))] := hl
  have hx2 := bh_ix_nI hq (by omega)
  refine lv_iload_n hx hb dX3_voteAnswerComes_0 rfl (lv_at hl 3 rfl) ?_
  refine vp_callSi (bn_roS (As := [.int (nI q)]) (rest := []) ⟨hx, hb, hml, hown, hts⟩ (cc_isPlace l (nI q)) (va_cwS 1 hts gX3_voteAnswerComes_X3_isPlace rfl rfl rfl (by decide +kernel) ⟨Nat.le_of_ble_eq_true rfl, Nat.le_of_ble_eq_true rfl⟩) rfl hl.1 (Nat.le_of_ble_eq_true rfl) dX3_voteAnswerComes_1 ⟨Nat.le_of_ble_eq_true rfl, Nat.le_of_ble_eq_true rfl⟩) (fun r_1 er_1 => ?_)
  obtain rfl : r_1 = nI 1 := by rw [er_1, hx2]; rfl
  refine lv_if_eq (tgt := 32) hx hb dX3_voteAnswerComes_4 (by decide) (fun c_2 => ?_) (fun c_2 => ?_)
  · first | exact absurd c_2 (by decide) | exact absurd (by decide) c_2
  · refine lv_aload_n hx hb dX3_voteAnswerComes_7 rfl (lv_at hl 1 rfl) ?_
    refine bn_get (ci := 1) (v := .int (C.2.1 6 b)) (C := RX1) (T := TX1) (N := 14) hx hb hts hinX1 hown hK hI (10 + (5 * (b - 1) + 0)) ((bh_cw_b hb1 hb2 0 (by decide)).trans rfl) rfl 6 (by decide) lk_72 rfl (rfl) dX3_voteAnswerComes_8 ?_
    refine lv_iconst (v := nI 2) hx hb dX3_voteAnswerComes_11 (by decide) ?_
    refine lv_icmp_lt (tgt := 32) hx hb dX3_voteAnswerComes_12 (by decide) (fun c_3 => ?_) (fun c_3 => ?_)
    · exact bn_retv hx hb hr hlocks hK (C) hI (by unfold bc_va; rw [if_neg (Int32.not_le.mpr c_3)]) dX3_voteAnswerComes_32
    · refine lv_aload_n hx hb dX3_voteAnswerComes_15 rfl (lv_at hl 1 rfl) ?_
      refine bn_get (ci := 1) (v := .ref (ba b 3)) (C := RX1) (T := TX1) (N := 14) hx hb hts hinX1 hown hK hI (10 + (5 * (b - 1) + 0)) ((bh_cw_b hb1 hb2 0 (by decide)).trans rfl) rfl 12 (by decide) lk_154 rfl (rfl) dX3_voteAnswerComes_16 ?_
      refine lv_iload_n hx hb dX3_voteAnswerComes_19 rfl (lv_at hl 3 rfl) ?_
      refine lv_dup2_11 hx hb dX3_voteAnswerComes_20 rfl rfl ?_
      refine bn_iald (n := 8) (v := C.2.2.1 12 b q) hx hb hK hI (10 + (5 * (b - 1) + 3)) 0 ((bh_cw_b hb1 hb2 3 (by decide)).trans rfl) rfl (by omega) (by first | decide | omega) (rfl) dX3_voteAnswerComes_21 ?_
      refine lv_iconst (v := nI 1) hx hb dX3_voteAnswerComes_22 (by decide) ?_
      refine lv_iload_n hx hb dX3_voteAnswerComes_23 rfl (lv_at hl 2 rfl) ?_
      refine lv_ishl hx hb dX3_voteAnswerComes_24 ?_
      refine lv_ior hx hb dX3_voteAnswerComes_25 ?_
      refine bn_iast (n := 8) (ws' := bh_cw h ad ba c nv km (bc_q C 12 b q ((C.2.2.1 12 b q) ||| ((nI 1) <<< ((nI v) &&& 31))))) hx hb hK hI (10 + (5 * (b - 1) + 3)) 0 ((bh_cw_b hb1 hb2 3 (by decide)).trans rfl) rfl (by omega) (by first | decide | omega) dX3_voteAnswerComes_26 (bh_cw_q3 _ _ hb1 hb2) (fun H locs hI => ?_)
      refine lv_aload_n hx hb dX3_voteAnswerComes_27 rfl (lv_at hl 0 rfl) ?_
      refine lv_aload_n hx hb dX3_voteAnswerComes_28 rfl (lv_at hl 1 rfl) ?_
      refine bn_muv (bn_muV (As := [.ref (ba b 0)]) (rest := []) ⟨hx, hb, hml, hown, hts⟩ (cc_goOn l D c h ad ba nv km _ (bc_q C 12 b q ((C.2.2.1 12 b q) ||| ((nI 1) <<< ((nI v) &&& 31)))) b hb1 hb2 g (hg) hg24 (ha) hn hk24) (cwV 1 hts gX3_voteAnswerComes_X3_goOn rfl rfl rfl (by decide +kernel) ⟨Nat.le_of_ble_eq_true rfl, Nat.le_of_ble_eq_true rfl⟩) hK hI 0 2 rfl rfl rfl rfl hl.1 (Nat.le_of_ble_eq_true rfl) dX3_voteAnswerComes_29 ⟨Nat.le_of_ble_eq_true rfl, Nat.le_of_ble_eq_true rfl⟩) hI hA (fun u_4 H locs eu_4 hI => ?_)
      subst eu_4
      exact bn_retv hx hb hr hlocks hK (bc_go (bc_q C 12 b q ((C.2.2.1 12 b q) ||| ((nI 1) <<< ((nI v) &&& 31)))) nv b g) hI (by unfold bc_va; rw [if_pos (Int32.not_lt.mp c_3)]; rfl) dX3_voteAnswerComes_32
set_option maxHeartbeats 4000000 in
set_option maxRecDepth 100000 in
theorem cc_completeComes (l : Launch) (D : va_G) (c : bh_C) (h : Nat) (ad : Nat → Nat) (ba : Nat → Nat → Nat) (nv km : Nat) (sz : Nat) (C : cS) (b : Nat) (hb1 : 1 ≤ b) (hb2 : b ≤ km) (ha : C.1.1 15 ≤ 400) : Met l yX3_completeComes wsX3_completeComes ({ frames := 1, cells := 0, slots := 0, locals := 26 }) (va_Pc [.ref h, .ref (ba b 0)] (bh_prm D c (bh_cw h ad ba c nv km (C)) sz)) (va_Qv (fun u : cS => u = bc_co C b) (fun u t => bh_post D c (bh_cw h ad ba c nv km u) (va_A (bh_cw h ad ba c nv km (C)) sz) t) (va_A (bh_cw h ad ba c nv km (C)) sz)) 0 0 (va_A (bh_cw h ad ba c nv km (C)) sz) := by
  refine Met.ofW (cc := cX3_completeComes) (maxL := 2) (ret := none) (by decide) rfl ?_
  intro p e s m args below meth c0 s₁ B hml hv
  obtain ⟨rfl, hsz, hP, hK, hD0⟩ := hv
  have hx := B.exec
  have hb := B.bytes
  have hr := B.returns
  have hts := atoms_spec (ws := wsX3_completeComes) B.pre
  have hown : s.vm.findClass RX3 = some m.cls := findClass_of_methodNamed B.named
  have hlocks := B.notSynchronized
  have hinX3 : ∀ w ∈ wsX30, w ∈ wsX3_completeComes := fun _ h => List.mem_cons_of_mem _ (List.mem_append_left _ (List.mem_append_left _ (List.mem_append_right _ h)))
  have hinX1 : ∀ w ∈ wsX10, w ∈ wsX3_completeComes := fun _ h => List.mem_cons_of_mem _ (List.mem_append_left _ (List.mem_append_right _ h))
  have hinX0 : ∀ w ∈ wsX00, w ∈ wsX3_completeComes := fun _ h => List.mem_cons_of_mem _ (List.mem_append_right _ h)
  have lk_39 : (Cond.fieldLink RX3 39 "BallotHouse" "letters" "LBallotHouse$Air;").before _ s = true := hts _ (by decide +kernel)
  have lk_50 : (Cond.fieldLink RX3 50 "BallotHouse" "complete" "I").before _ s = true := hts _ (by decide +kernel)
  have lk_91 : (Cond.fieldLink RX3 91 "BallotHouse$Ballot" "number" "I").before _ s = true := hts _ (by decide +kernel)
  have lk_145 : (Cond.fieldLink RX3 145 "BallotHouse$Ballot" "behind" "I").before _ s = true := hts _ (by decide +kernel)
  subst hsz
  have hI := bh_start hP hD0
  generalize hAe : va_A (bh_cw h ad ba c nv km (C)) s.heap.size = A at hI ⊢
  have hA : ∀ q : Nat, s.heap.size ≤ q → A q := fun q h => by rw [← hAe]; exact Or.inr h
  clear hP hD0 hAe
  have hl := lv_entry ([.ref h, .ref (ba b 0)]) (n := 2) (Nat.le_of_ble_eq_true rfl)
  rw [lg_entry_eq]
  generalize (lg_sl ([.ref h, .ref (ba b 0)]) ++ List.replicate (2 - (lg_sl ([.ref h, .ref (ba b 0)])).length) Slot.unset).toArray = ls at hl ⊢
  have hl : lv_has ls 2 [(0, .ref h), (1, .ref (ba b 0))] := hl
  refine lv_aload_n hx hb dX3_completeComes_0 rfl (lv_at hl 0 rfl) ?_
  refine bn_get (ci := 2) (v := .int (C.1.2.1 6)) (C := RX3) (T := TX3) (N := 8) hx hb hts hinX3 hown hK hI 0 rfl rfl 6 (by decide) lk_50 rfl (rfl) dX3_completeComes_1 ?_
  refine lv_aload_n hx hb dX3_completeComes_4 rfl (lv_at hl 1 rfl) ?_
  refine bn_get (ci := 1) (v := .int (C.2.1 4 b)) (C := RX1) (T := TX1) (N := 14) hx hb hts hinX1 hown hK hI (10 + (5 * (b - 1) + 0)) ((bh_cw_b hb1 hb2 0 (by decide)).trans rfl) rfl 4 (by decide) lk_145 rfl (rfl) dX3_completeComes_5 ?_
  refine lv_icmp_eq (tgt := 22) hx hb dX3_completeComes_8 (by decide) (fun c_1 => ?_) (fun c_1 => ?_)
  · refine lv_aload_n hx hb dX3_completeComes_22 rfl (lv_at hl 0 rfl) ?_
    refine lv_aload_n hx hb dX3_completeComes_23 rfl (lv_at hl 1 rfl) ?_
    refine bn_get (ci := 1) (v := .int (nI b)) (C := RX1) (T := TX1) (N := 14) hx hb hts hinX1 hown hK hI (10 + (5 * (b - 1) + 0)) ((bh_cw_b hb1 hb2 0 (by decide)).trans rfl) rfl 0 (by decide) lk_91 rfl (rfl) dX3_completeComes_24 ?_
    refine bn_put (ci := 2) (v := .int (nI b)) (ty := .int) (C := RX3) (T := TX3) (N := 8) (ws' := bh_cw h ad ba c nv km (bc_i C 6 (nI b))) hx hb hts hinX3 tyX3 tyX3_ok nmX3 hown hK hI 0 rfl rfl 6 (by decide) lk_50 rfl rfl rfl rfl rfl (Nat.le_of_ble_eq_true rfl) dX3_completeComes_27 rfl (fun H locs hI => ?_)
    refine lv_aload_n hx hb dX3_completeComes_30 rfl (lv_at hl 0 rfl) ?_
    refine bn_get (ci := 2) (v := .ref (ad 7)) (C := RX3) (T := TX3) (N := 8) hx hb hts hinX3 hown hK hI 0 rfl rfl 7 (by decide) lk_39 rfl (rfl) dX3_completeComes_31 ?_
    refine lv_bipush (v := nI 7) hx hb dX3_completeComes_34 (by decide) ?_
    refine lv_aload_n hx hb dX3_completeComes_36 rfl (lv_at hl 1 rfl) ?_
    refine bn_get (ci := 1) (v := .int (nI b)) (C := RX1) (T := TX1) (N := 14) hx hb hts hinX1 hown hK hI (10 + (5 * (b - 1) + 0)) ((bh_cw_b hb1 hb2 0 (by decide)).trans rfl) rfl 0 (by decide) lk_91 rfl (rfl) dX3_completeComes_37 ?_
    refine lv_iconst (v := -1) hx hb dX3_completeComes_40 (by decide) ?_
    refine lv_iconst (v := -1) hx hb dX3_completeComes_41 (by decide) ?_
    refine lv_lconst (v := 0) hx hb dX3_completeComes_42 (by decide) ?_
    refine bn_muv (bn_muV (As := [.int (nI 7), .int (nI b), .int (-1), .int (-1), .long (0)]) (rest := []) ⟨hx, hb, hml, hown, hts⟩ (cc_send l D c h ad ba nv km _ (bc_i C 6 (nI b)) (nI 7) (nI b) (-1) (-1) (0) (ha)) (cwV 5 hts gX3_completeComes_X0_send rfl rfl rfl (by decide +kernel) ⟨Nat.le_of_ble_eq_true rfl, Nat.le_of_ble_eq_true rfl⟩) hK hI 4 0 rfl rfl rfl rfl hl.1 (Nat.le_of_ble_eq_true rfl) dX3_completeComes_43 ⟨Nat.le_of_ble_eq_true rfl, Nat.le_of_ble_eq_true rfl⟩) hI hA (fun u_2 H locs eu_2 hI => ?_)
    subst eu_2
    exact bn_retv hx hb hr hlocks hK (bc_sd (bc_i C 6 (nI b)) (nI 7) (nI b) (-1) (-1) 0) hI (by unfold bc_co; rw [if_pos (Or.inl c_1)]) dX3_completeComes_46
  · refine lv_aload_n hx hb dX3_completeComes_11 rfl (lv_at hl 0 rfl) ?_
    refine bn_get (ci := 2) (v := .int (C.1.2.1 6)) (C := RX3) (T := TX3) (N := 8) hx hb hts hinX3 hown hK hI 0 rfl rfl 6 (by decide) lk_50 rfl (rfl) dX3_completeComes_12 ?_
    refine lv_aload_n hx hb dX3_completeComes_15 rfl (lv_at hl 1 rfl) ?_
    refine bn_get (ci := 1) (v := .int (nI b)) (C := RX1) (T := TX1) (N := 14) hx hb hts hinX1 hown hK hI (10 + (5 * (b - 1) + 0)) ((bh_cw_b hb1 hb2 0 (by decide)).trans rfl) rfl 0 (by decide) lk_91 rfl (rfl) dX3_completeComes_16 ?_
    refine lv_icmp_ne (tgt := 46) hx hb dX3_completeComes_19 (by decide) (fun c_3 => ?_) (fun c_3 => ?_)
    · exact bn_retv hx hb hr hlocks hK (C) hI (by unfold bc_co; rw [if_neg (fun w => w.elim c_1 c_3)]) dX3_completeComes_46
    · refine lv_aload_n hx hb dX3_completeComes_22 rfl (lv_at hl 0 rfl) ?_
      refine lv_aload_n hx hb dX3_completeComes_23 rfl (lv_at hl 1 rfl) ?_
      refine bn_get (ci := 1) (v := .int (nI b)) (C := RX1) (T := TX1) (N := 14) hx hb hts hinX1 hown hK hI (10 + (5 * (b - 1) + 0)) ((bh_cw_b hb1 hb2 0 (by decide)).trans rfl) rfl 0 (by decide) lk_91 rfl (rfl) dX3_completeComes_24 ?_
      refine bn_put (ci := 2) (v := .int (nI b)) (ty := .int) (C := RX3) (T := TX3) (N := 8) (ws' := bh_cw h ad ba c nv km (bc_i C 6 (nI b))) hx hb hts hinX3 tyX3 tyX3_ok nmX3 hown hK hI 0 rfl rfl 6 (by decide) lk_50 rfl rfl rfl rfl rfl (Nat.le_of_ble_eq_true rfl) dX3_completeComes_27 rfl (fun H locs hI => ?_)
      refine lv_aload_n hx hb dX3_completeComes_30 rfl (lv_at hl 0 rfl) ?_
      refine bn_get (ci := 2) (v := .ref (ad 7)) (C := RX3) (T := TX3) (N := 8) hx hb hts hinX3 hown hK hI 0 rfl rfl 7 (by decide) lk_39 rfl (rfl) dX3_completeComes_31 ?_
      refine lv_bipush (v := nI 7) hx hb dX3_completeComes_34 (by decide) ?_
      refine lv_aload_n hx hb dX3_completeComes_36 rfl (lv_at hl 1 rfl) ?_
      refine bn_get (ci := 1) (v := .int (nI b)) (C := RX1) (T := TX1) (N := 14) hx hb hts hinX1 hown hK hI (10 + (5 * (b - 1) + 0)) ((bh_cw_b hb1 hb2 0 (by decide)).trans rfl) rfl 0 (by decide) lk_91 rfl (rfl) dX3_completeComes_37 ?_
      refine lv_iconst (v := -1) hx hb dX3_completeComes_40 (by decide) ?_
      refine lv_iconst (v := -1) hx hb dX3_completeComes_41 (by decide) ?_
      refine lv_lconst (v := 0) hx hb dX3_completeComes_42 (by decide) ?_
      refine bn_muv (bn_muV (As := [.int (nI 7), .int (nI b), .int (-1), .int (-1), .long (0)]) (rest := []) ⟨hx, hb, hml, hown, hts⟩ (cc_send l D c h ad ba nv km _ (bc_i C 6 (nI b)) (nI 7) (nI b) (-1) (-1) (0) (ha)) (cwV 5 hts gX3_completeComes_X0_send rfl rfl rfl (by decide +kernel) ⟨Nat.le_of_ble_eq_true rfl, Nat.le_of_ble_eq_true rfl⟩) hK hI 4 0 rfl rfl rfl rfl hl.1 (Nat.le_of_ble_eq_true rfl) dX3_completeComes_43 ⟨Nat.le_of_ble_eq_true rfl, Nat.le_of_ble_eq_true rfl⟩) hI hA (fun u_4 H locs eu_4 hI => ?_)
      subst eu_4
      exact bn_retv hx hb hr hlocks hK (bc_sd (bc_i C 6 (nI b)) (nI 7) (nI b) (-1) (-1) 0) hI (by unfold bc_co; rw [if_pos (Or.inr c_3)]) dX3_completeComes_46
set_option maxHeartbeats 4000000 in
set_option maxRecDepth 100000 in
theorem cc_activeComes (l : Launch) (D : va_G) (c : bh_C) (h : Nat) (ad : Nat → Nat) (ba : Nat → Nat → Nat) (nv km : Nat) (sz : Nat) (C : cS) (b : Nat) (hb1 : 1 ≤ b) (hb2 : b ≤ km) : Met l yX3_activeComes wsX3_activeComes ({ frames := 0, cells := 0, slots := 0, locals := 0 }) (va_Pc [.ref h, .ref (ba b 0)] (bh_prm D c (bh_cw h ad ba c nv km (C)) sz)) (va_Qv (fun u : cS => u = bc_ac C b) (fun u t => bh_post D c (bh_cw h ad ba c nv km u) (va_A (bh_cw h ad ba c nv km (C)) sz) t) (va_A (bh_cw h ad ba c nv km (C)) sz)) 0 0 (va_A (bh_cw h ad ba c nv km (C)) sz) := by
  refine Met.ofW (cc := cX3_activeComes) (maxL := 2) (ret := none) (by decide) rfl ?_
  intro p e s m args below meth c0 s₁ B hml hv
  obtain ⟨rfl, hsz, hP, hK, hD0⟩ := hv
  have hx := B.exec
  have hb := B.bytes
  have hr := B.returns
  have hts := atoms_spec (ws := wsX3_activeComes) B.pre
  have hown : s.vm.findClass RX3 = some m.cls := findClass_of_methodNamed B.named
  have hlocks := B.notSynchronized
  have hinX1 : ∀ w ∈ wsX10, w ∈ wsX3_activeComes := fun _ h => List.mem_cons_of_mem _ (List.mem_append_right _ h)
  have lk_72 : (Cond.fieldLink RX3 72 "BallotHouse$Ballot" "state" "I").before _ s = true := hts _ (by decide +kernel)
  subst hsz
  have hI := bh_start hP hD0
  generalize hAe : va_A (bh_cw h ad ba c nv km (C)) s.heap.size = A at hI ⊢
  have hA : ∀ q : Nat, s.heap.size ≤ q → A q := fun q h => by rw [← hAe]; exact Or.inr h
  clear hP hD0 hAe
  have hl := lv_entry ([.ref h, .ref (ba b 0)]) (n := 2) (Nat.le_of_ble_eq_true rfl)
  rw [lg_entry_eq]
  generalize (lg_sl ([.ref h, .ref (ba b 0)]) ++ List.replicate (2 - (lg_sl ([.ref h, .ref (ba b 0)])).length) Slot.unset).toArray = ls at hl ⊢
  have hl : lv_has ls 2 [(0, .ref h), (1, .ref (ba b 0))] := hl
  refine lv_aload_n hx hb dX3_activeComes_0 rfl (lv_at hl 1 rfl) ?_
  refine bn_get (ci := 1) (v := .int (C.2.1 6 b)) (C := RX1) (T := TX1) (N := 14) hx hb hts hinX1 hown hK hI (10 + (5 * (b - 1) + 0)) ((bh_cw_b hb1 hb2 0 (by decide)).trans rfl) rfl 6 (by decide) lk_72 rfl (rfl) dX3_activeComes_1 ?_
  refine lv_iconst (v := nI 3) hx hb dX3_activeComes_4 (by decide) ?_
  refine lv_icmp_ne (tgt := 13) hx hb dX3_activeComes_5 (by decide) (fun c_1 => ?_) (fun c_1 => ?_)
  · exact bn_retv hx hb hr hlocks hK (C) hI (by unfold bc_ac; rw [if_neg c_1]) dX3_activeComes_13
  · refine lv_aload_n hx hb dX3_activeComes_8 rfl (lv_at hl 1 rfl) ?_
    refine lv_iconst (v := nI 4) hx hb dX3_activeComes_9 (by decide) ?_
    refine bn_put (ci := 1) (v := .int (nI 4)) (ty := .int) (C := RX1) (T := TX1) (N := 14) (ws' := bh_cw h ad ba c nv km (bc_f C 6 b (nI 4))) hx hb hts hinX1 tyX1 tyX1_ok nmX1 hown hK hI (10 + (5 * (b - 1) + 0)) ((bh_cw_b hb1 hb2 0 (by decide)).trans rfl) rfl 6 (by decide) lk_72 rfl rfl rfl rfl rfl (Nat.le_of_ble_eq_true rfl) dX3_activeComes_10 (bh_cw_f 6 _ (by decide) hb1 hb2) (fun H locs hI => ?_)
    exact bn_retv hx hb hr hlocks hK (bc_f C 6 b (nI 4)) hI (by unfold bc_ac; rw [if_pos c_1]) dX3_activeComes_13
set_option maxHeartbeats 4000000 in
set_option maxRecDepth 100000 in
theorem cc_handOver (l : Launch) (D : va_G) (c : bh_C) (h : Nat) (ad : Nat → Nat) (ba : Nat → Nat → Nat) (nv km : Nat) (sz : Nat) (C : cS) (k w b v q g : Nat) (ha : C.1.1 15 ≤ 400) (hn : nv ≤ 7) (hk24 : km ≤ 24) (hk : k < C.1.1 15) (hL : bc_let C nv km k w b v q g) : Met l yX3_handOver wsX3_handOver ({ frames := 5, cells := 0, slots := 0, locals := 120 }) (va_Pc [.ref h, .int (nI k)] (bh_prm D c (bh_cw h ad ba c nv km (C)) sz)) (va_Qv (fun u : cS => u = bc_do (bc_dp C k) nv km w b v q g (C.1.2.2.2 14 k)) (fun u t => bh_post D c (bh_cw h ad ba c nv km u) (va_A (bh_cw h ad ba c nv km (C)) sz) t) (va_A (bh_cw h ad ba c nv km (C)) sz)) 0 0 (va_A (bh_cw h ad ba c nv km (C)) sz) := by
  refine Met.ofW (cc := cX3_handOver) (maxL := 8) (ret := none) (by decide) rfl ?_
  intro p e s m args below meth c0 s₁ B hml hv
  obtain ⟨rfl, hsz, hP, hK, hD0⟩ := hv
  have hx := B.exec
  have hb := B.bytes
  have hr := B.returns
  have hts := atoms_spec (ws := wsX3_handOver) B.pre
  have hown : s.vm.findClass RX3 = some m.cls := findClass_of_methodNamed B.named
  have hlocks := B.notSynchronized
  have hinX3 : ∀ w ∈ wsX30, w ∈ wsX3_handOver := fun _ h => List.mem_cons_of_mem _ (List.mem_append_left _ (List.mem_append_left _ (List.mem_append_right _ h)))
  have hinX0 : ∀ w ∈ wsX00, w ∈ wsX3_handOver := fun _ h => List.mem_cons_of_mem _ (List.mem_append_left _ (List.mem_append_right _ h))
  have hinX1 : ∀ w ∈ wsX10, w ∈ wsX3_handOver := fun _ h => List.mem_cons_of_mem _ (List.mem_append_right _ h)
  have lk_39 : (Cond.fieldLink RX3 39 "BallotHouse" "letters" "LBallotHouse$Air;").before _ s = true := hts _ (by decide +kernel)
  have lk_163 : (Cond.fieldLink RX3 163 "BallotHouse$Air" "kind" "[I").before _ s = true := hts _ (by decide +kernel)
  have lk_166 : (Cond.fieldLink RX3 166 "BallotHouse$Air" "ballot" "[I").before _ s = true := hts _ (by decide +kernel)
  have lk_169 : (Cond.fieldLink RX3 169 "BallotHouse$Air" "voter" "[I").before _ s = true := hts _ (by decide +kernel)
  have lk_172 : (Cond.fieldLink RX3 172 "BallotHouse$Air" "place" "[I").before _ s = true := hts _ (by decide +kernel)
  have lk_175 : (Cond.fieldLink RX3 175 "BallotHouse$Air" "votes" "[J").before _ s = true := hts _ (by decide +kernel)
  subst hsz
  have hI := bh_start hP hD0
  generalize hAe : va_A (bh_cw h ad ba c nv km (C)) s.heap.size = A at hI ⊢
  have hA : ∀ q : Nat, s.heap.size ≤ q → A q := fun q h => by rw [← hAe]; exact Or.inr h
  clear hP hD0 hAe
  have hl := lv_entry ([.ref h, .int (nI k)]) (n := 8) (Nat.le_of_ble_eq_true rfl)
  rw [lg_entry_eq]
  generalize (lg_sl ([.ref h, .int (nI k)]) ++ List.replicate (8 - (lg_sl ([.ref h, .int (nI k)])).length) Slot.unset).toArray = ls at hl ⊢
  have hl : lv_has ls 8 [(0, .ref h), (1, .int (nI k))] := hl
  obtain ⟨hL10, hL11, hL4, hLw, ⟨hb1, hb2⟩, hg24, hL12, hL13⟩ := hL
  have hoa : (bc_dp C k).1.1 15 ≤ 400 := by show C.1.1 15 - 1 ≤ 400; omega
  have ho4 : (bc_dp C k).2.1 4 b = nI g := hL4
  refine lv_aload_n hx hb dX3_handOver_0 rfl (lv_at hl 0 rfl) ?_
  refine bn_get (ci := 2) (v := .ref (ad 7)) (C := RX3) (T := TX3) (N := 8) hx hb hts hinX3 hown hK hI 0 rfl rfl 7 (by decide) lk_39 rfl (rfl) dX3_handOver_1 ?_
  refine bn_get (ci := 0) (v := .ref (ad 10)) (C := RX0) (T := TX0) (N := 7) hx hb hts hinX0 hown hK hI 4 rfl rfl 0 (by decide) lk_163 rfl (rfl) dX3_handOver_4 ?_
  refine lv_iload_n hx hb dX3_handOver_7 rfl (lv_at hl 1 rfl) ?_
  refine bn_iald (n := 400) (v := nI w) hx hb hK hI 5 0 rfl rfl (by omega) (by first | decide | omega) (hL10) dX3_handOver_8 ?_
  refine lv_istore_n (lv' := [(2, .int (nI w)), (0, .ref h), (1, .int (nI k))]) hx hb dX3_handOver_9 rfl hl (by decide) rfl (fun ls hl => ?_)
  refine lv_aload_n hx hb dX3_handOver_10 rfl (lv_at hl 1 rfl) ?_
  refine bn_get (ci := 2) (v := .ref (ad 7)) (C := RX3) (T := TX3) (N := 8) hx hb hts hinX3 hown hK hI 0 rfl rfl 7 (by decide) lk_39 rfl (rfl) dX3_handOver_11 ?_
  refine bn_get (ci := 0) (v := .ref (ad 12)) (C := RX0) (T := TX0) (N := 7) hx hb hts hinX0 hown hK hI 4 rfl rfl 2 (by decide) lk_169 rfl (rfl) dX3_handOver_14 ?_
  refine lv_iload_n hx hb dX3_handOver_17 rfl (lv_at hl 2 rfl) ?_
  refine bn_iald (n := 400) (v := C.1.2.2.1 12 k) hx hb hK hI 7 0 rfl rfl (by omega) (by first | decide | omega) (rfl) dX3_handOver_18 ?_
  refine lv_istore_n (lv' := [(3, .int (C.1.2.2.1 12 k)), (2, .int (nI w)), (0, .ref h), (1, .int (nI k))]) hx hb dX3_handOver_19 rfl hl (by decide) rfl (fun ls hl => ?_)
  refine lv_aload_n hx hb dX3_handOver_20 rfl (lv_at hl 2 rfl) ?_
  refine bn_get (ci := 2) (v := .ref (ad 7)) (C := RX3) (T := TX3) (N := 8) hx hb hts hinX3 hown hK hI 0 rfl rfl 7 (by decide) lk_39 rfl (rfl) dX3_handOver_21 ?_
  refine bn_get (ci := 0) (v := .ref (ad 13)) (C := RX0) (T := TX0) (N := 7) hx hb hts hinX0 hown hK hI 4 rfl rfl 3 (by decide) lk_172 rfl (rfl) dX3_handOver_24 ?_
  refine lv_iload_n hx hb dX3_handOver_27 rfl (lv_at hl 3 rfl) ?_
  refine bn_iald (n := 400) (v := C.1.2.2.1 13 k) hx hb hK hI 8 0 rfl rfl (by omega) (by first | decide | omega) (rfl) dX3_handOver_28 ?_
  refine lv_istore (lv' := [(4, .int (C.1.2.2.1 13 k)), (3, .int (C.1.2.2.1 12 k)), (2, .int (nI w)), (0, .ref h), (1, .int (nI k))]) hx hb dX3_handOver_29 hl (by decide) rfl (fun ls hl => ?_)
  refine lv_aload_n hx hb dX3_handOver_31 rfl (lv_at hl 3 rfl) ?_
  refine bn_get (ci := 2) (v := .ref (ad 7)) (C := RX3) (T := TX3) (N := 8) hx hb hts hinX3 hown hK hI 0 rfl rfl 7 (by decide) lk_39 rfl (rfl) dX3_handOver_32 ?_
  refine bn_get (ci := 0) (v := .ref (ad 14)) (C := RX0) (T := TX0) (N := 7) hx hb hts hinX0 hown hK hI 4 rfl rfl 4 (by decide) lk_175 rfl (rfl) dX3_handOver_35 ?_
  refine lv_iload_n hx hb dX3_handOver_38 rfl (lv_at hl 4 rfl) ?_
  refine bn_lald (n := 400) (v := C.1.2.2.2 14 k) hx hb hK hI 9 1 rfl rfl (by omega) (by first | decide | omega) (rfl) dX3_handOver_39 ?_
  refine lv_lstore (lv' := [(5, .long (C.1.2.2.2 14 k)), (4, .int (C.1.2.2.1 13 k)), (3, .int (C.1.2.2.1 12 k)), (2, .int (nI w)), (0, .ref h), (1, .int (nI k))]) hx hb dX3_handOver_40 hl (by decide) rfl (fun ls hl => ?_)
  refine lv_aload_n hx hb dX3_handOver_42 rfl (lv_at hl 4 rfl) ?_
  refine lv_aload_n hx hb dX3_handOver_43 rfl (lv_at hl 4 rfl) ?_
  refine bn_get (ci := 2) (v := .ref (ad 7)) (C := RX3) (T := TX3) (N := 8) hx hb hts hinX3 hown hK hI 0 rfl rfl 7 (by decide) lk_39 rfl (rfl) dX3_handOver_44 ?_
  refine bn_get (ci := 0) (v := .ref (ad 11)) (C := RX0) (T := TX0) (N := 7) hx hb hts hinX0 hown hK hI 4 rfl rfl 1 (by decide) lk_166 rfl (rfl) dX3_handOver_47 ?_
  refine lv_iload_n hx hb dX3_handOver_50 rfl (lv_at hl 5 rfl) ?_
  refine bn_iald (n := 400) (v := nI b) hx hb hK hI 6 0 rfl rfl (by omega) (by first | decide | omega) (hL11) dX3_handOver_51 ?_
  refine va_csq (bn_roV (As := [.int (nI b)]) (rest := []) ⟨hx, hb, hml, hown, hts⟩ (cc_find l D c h ad ba nv km (C) (b) (hb1) (hb2) hk24) (cwV 1 hts gX3_handOver_X3_find rfl rfl rfl (by decide +kernel) ⟨Nat.le_of_ble_eq_true rfl, Nat.le_of_ble_eq_true rfl⟩) hK hI 0 2 rfl rfl rfl rfl hl.1 (Nat.le_of_ble_eq_true rfl) dX3_handOver_52 ⟨Nat.le_of_ble_eq_true rfl, Nat.le_of_ble_eq_true rfl⟩) (fun r_1 er_1 => ?_)
  subst er_1
  refine lv_astore (lv' := [(7, .ref (ba b 0)), (5, .long (C.1.2.2.2 14 k)), (4, .int (C.1.2.2.1 13 k)), (3, .int (C.1.2.2.1 12 k)), (2, .int (nI w)), (0, .ref h), (1, .int (nI k))]) hx hb dX3_handOver_55 hl (by decide) rfl (fun ls hl => ?_)
  refine lv_aload_n hx hb dX3_handOver_57 rfl (lv_at hl 5 rfl) ?_
  refine bn_get (ci := 2) (v := .ref (ad 7)) (C := RX3) (T := TX3) (N := 8) hx hb hts hinX3 hown hK hI 0 rfl rfl 7 (by decide) lk_39 rfl (rfl) dX3_handOver_58 ?_
  refine lv_iload_n hx hb dX3_handOver_61 rfl (lv_at hl 6 rfl) ?_
  refine bn_muv (bn_muV (As := [.int (nI k)]) (rest := []) ⟨hx, hb, hml, hown, hts⟩ (cc_drop l D c h ad ba nv km _ C k ha hk) (cwV 1 hts gX3_handOver_X0_drop rfl rfl rfl (by decide +kernel) ⟨Nat.le_of_ble_eq_true rfl, Nat.le_of_ble_eq_true rfl⟩) hK hI 4 0 rfl rfl rfl rfl hl.1 (Nat.le_of_ble_eq_true rfl) dX3_handOver_62 ⟨Nat.le_of_ble_eq_true rfl, Nat.le_of_ble_eq_true rfl⟩) hI hA (fun u_2 H locs eu_2 hI => ?_)
  subst eu_2
  refine lv_aload hx hb dX3_handOver_65 (lv_at hl 0 rfl) ?_
  refine lv_ifnonnull (tgt := 71) hx hb dX3_handOver_67 (by decide) ?_
  refine lv_iload_n hx hb dX3_handOver_71 rfl (lv_at hl 4 rfl) ?_
  rcases (show w = 1 ∨ w = 2 ∨ w = 3 ∨ w = 4 ∨ w = 5 ∨ w = 6 ∨ w = 7 by omega) with hw | hw | hw | hw | hw | hw | hw
  · subst hw
    refine lv_tableIn (tgt := 116) hx hb dX3_handOver_72 (by decide) (by decide) rfl (by decide) ?_
    refine lv_aload_n hx hb dX3_handOver_116 rfl (lv_at hl 5 rfl) ?_
    refine lv_aload hx hb dX3_handOver_117 (lv_at hl 0 rfl) ?_
    refine bn_muv (bn_muV (As := [.ref (ba b 0)]) (rest := []) ⟨hx, hb, hml, hown, hts⟩ (cc_newComes l D c h ad ba nv km _ (bc_dp C k) b hb1 hb2 g ho4 hg24 hoa hn hk24) (cwV 1 hts gX3_handOver_X3_newComes rfl rfl rfl (by decide +kernel) ⟨Nat.le_of_ble_eq_true rfl, Nat.le_of_ble_eq_true rfl⟩) hK hI 0 2 rfl rfl rfl rfl hl.1 (Nat.le_of_ble_eq_true rfl) dX3_handOver_119 ⟨Nat.le_of_ble_eq_true rfl, Nat.le_of_ble_eq_true rfl⟩) hI hA (fun u_3 H locs eu_3 hI => ?_)
    subst eu_3
    refine lv_goto (tgt := 189) hx hb dX3_handOver_122 (by decide) ?_
    exact bn_retv hx hb hr hlocks hK (bc_ne (bc_dp C k) nv b g) hI (by show _ = bc_do (bc_dp C k) nv km 1 b v q g (C.1.2.2.2 14 k); unfold bc_do; rw [if_pos rfl]) dX3_handOver_189
  · subst hw
    refine lv_tableIn (tgt := 125) hx hb dX3_handOver_72 (by decide) (by decide) rfl (by decide) ?_
    obtain ⟨ev, hv7⟩ := hL12 (by omega)
    rw [ev] at hl
    refine lv_aload_n hx hb dX3_handOver_125 rfl (lv_at hl 5 rfl) ?_
    refine lv_aload hx hb dX3_handOver_126 (lv_at hl 0 rfl) ?_
    refine lv_iload_n hx hb dX3_handOver_128 rfl (lv_at hl 3 rfl) ?_
    refine bn_muv (bn_muV (As := [.ref (ba b 0), .int (nI v)]) (rest := []) ⟨hx, hb, hml, hown, hts⟩ (cc_readComes l D c h ad ba nv km _ (bc_dp C k) b hb1 hb2 v hv7 hoa hn) (cwV 2 hts gX3_handOver_X3_readComes rfl rfl rfl (by decide +kernel) ⟨Nat.le_of_ble_eq_true rfl, Nat.le_of_ble_eq_true rfl⟩) hK hI 0 2 rfl rfl rfl rfl hl.1 (Nat.le_of_ble_eq_true rfl) dX3_handOver_129 ⟨Nat.le_of_ble_eq_true rfl, Nat.le_of_ble_eq_true rfl⟩) hI hA (fun u_4 H locs eu_4 hI => ?_)
    subst eu_4
    refine lv_goto (tgt := 189) hx hb dX3_handOver_132 (by decide) ?_
    exact bn_retv hx hb hr hlocks hK (bc_re (bc_dp C k) b v) hI (by show _ = bc_do (bc_dp C k) nv km 2 b v q g (C.1.2.2.2 14 k); unfold bc_do; rw [if_neg (by omega), if_pos rfl]) dX3_handOver_189
  · subst hw
    refine lv_tableIn (tgt := 135) hx hb dX3_handOver_72 (by decide) (by decide) rfl (by decide) ?_
    obtain ⟨ev, hv7⟩ := hL12 (by omega)
    rw [ev] at hl
    refine lv_aload_n hx hb dX3_handOver_135 rfl (lv_at hl 5 rfl) ?_
    refine lv_aload hx hb dX3_handOver_136 (lv_at hl 0 rfl) ?_
    refine lv_iload_n hx hb dX3_handOver_138 rfl (lv_at hl 3 rfl) ?_
    refine lv_lload hx hb dX3_handOver_139 (lv_at hl 1 rfl) ?_
    refine bn_muv (bn_muV (As := [.ref (ba b 0), .int (nI v), .long (C.1.2.2.2 14 k)]) (rest := []) ⟨hx, hb, hml, hown, hts⟩ (cc_readAnswerComes l D c h ad ba nv km _ (bc_dp C k) b hb1 hb2 v (C.1.2.2.2 14 k) g ho4 hg24 hoa hn hk24) (cwV 3 hts gX3_handOver_X3_readAnswerComes rfl rfl rfl (by decide +kernel) ⟨Nat.le_of_ble_eq_true rfl, Nat.le_of_ble_eq_true rfl⟩) hK hI 0 2 rfl rfl rfl rfl hl.1 (Nat.le_of_ble_eq_true rfl) dX3_handOver_141 ⟨Nat.le_of_ble_eq_true rfl, Nat.le_of_ble_eq_true rfl⟩) hI hA (fun u_5 H locs eu_5 hI => ?_)
    subst eu_5
    refine lv_goto (tgt := 189) hx hb dX3_handOver_144 (by decide) ?_
    exact bn_retv hx hb hr hlocks hK (bc_ra (bc_dp C k) nv km b v g (C.1.2.2.2 14 k)) hI (by show _ = bc_do (bc_dp C k) nv km 3 b v q g (C.1.2.2.2 14 k); unfold bc_do; rw [if_neg (by omega), if_neg (by omega), if_pos rfl]) dX3_handOver_189
  · subst hw
    refine lv_tableIn (tgt := 147) hx hb dX3_handOver_72 (by decide) (by decide) rfl (by decide) ?_
    obtain ⟨ev, hv7⟩ := hL12 (by omega)
    rw [ev] at hl
    obtain ⟨eq, hq8⟩ := hL13 (by omega)
    rw [eq] at hl
    refine lv_aload_n hx hb dX3_handOver_147 rfl (lv_at hl 5 rfl) ?_
    refine lv_aload hx hb dX3_handOver_148 (lv_at hl 0 rfl) ?_
    refine lv_iload_n hx hb dX3_handOver_150 rfl (lv_at hl 3 rfl) ?_
    refine lv_iload hx hb dX3_handOver_151 (lv_at hl 2 rfl) ?_
    refine bn_muv (bn_muV (As := [.ref (ba b 0), .int (nI v), .int (nI q)]) (rest := []) ⟨hx, hb, hml, hown, hts⟩ (cc_voteComes l D c h ad ba nv km _ (bc_dp C k) b hb1 hb2 v q hv7 hq8 hoa hn) (cwV 3 hts gX3_handOver_X3_voteComes rfl rfl rfl (by decide +kernel) ⟨Nat.le_of_ble_eq_true rfl, Nat.le_of_ble_eq_true rfl⟩) hK hI 0 2 rfl rfl rfl rfl hl.1 (Nat.le_of_ble_eq_true rfl) dX3_handOver_153 ⟨Nat.le_of_ble_eq_true rfl, Nat.le_of_ble_eq_true rfl⟩) hI hA (fun u_6 H locs eu_6 hI => ?_)
    subst eu_6
    refine lv_goto (tgt := 189) hx hb dX3_handOver_156 (by decide) ?_
    exact bn_retv hx hb hr hlocks hK (bc_vo (bc_dp C k) b v q) hI (by show _ = bc_do (bc_dp C k) nv km 4 b v q g (C.1.2.2.2 14 k); unfold bc_do; rw [if_neg (by omega), if_neg (by omega), if_neg (by omega), if_pos rfl]) dX3_handOver_189
  · subst hw
    refine lv_tableIn (tgt := 159) hx hb dX3_handOver_72 (by decide) (by decide) rfl (by decide) ?_
    obtain ⟨ev, hv7⟩ := hL12 (by omega)
    rw [ev] at hl
    obtain ⟨eq, hq8⟩ := hL13 (by omega)
    rw [eq] at hl
    refine lv_aload_n hx hb dX3_handOver_159 rfl (lv_at hl 5 rfl) ?_
    refine lv_aload hx hb dX3_handOver_160 (lv_at hl 0 rfl) ?_
    refine lv_iload_n hx hb dX3_handOver_162 rfl (lv_at hl 3 rfl) ?_
    refine lv_iload hx hb dX3_handOver_163 (lv_at hl 2 rfl) ?_
    refine bn_muv (bn_muV (As := [.ref (ba b 0), .int (nI v), .int (nI q)]) (rest := []) ⟨hx, hb, hml, hown, hts⟩ (cc_voteAnswerComes l D c h ad ba nv km _ (bc_dp C k) b hb1 hb2 v q hq8 g ho4 hg24 hoa hn hk24) (cwV 3 hts gX3_handOver_X3_voteAnswerComes rfl rfl rfl (by decide +kernel) ⟨Nat.le_of_ble_eq_true rfl, Nat.le_of_ble_eq_true rfl⟩) hK hI 0 2 rfl rfl rfl rfl hl.1 (Nat.le_of_ble_eq_true rfl) dX3_handOver_165 ⟨Nat.le_of_ble_eq_true rfl, Nat.le_of_ble_eq_true rfl⟩) hI hA (fun u_7 H locs eu_7 hI => ?_)
    subst eu_7
    refine lv_goto (tgt := 189) hx hb dX3_handOver_168 (by decide) ?_
    exact bn_retv hx hb hr hlocks hK (bc_va (bc_dp C k) nv b v q g) hI (by show _ = bc_do (bc_dp C k) nv km 5 b v q g (C.1.2.2.2 14 k); unfold bc_do; rw [if_neg (by omega), if_neg (by omega), if_neg (by omega), if_neg (by omega), if_pos rfl]) dX3_handOver_189
  · subst hw
    refine lv_tableIn (tgt := 171) hx hb dX3_handOver_72 (by decide) (by decide) rfl (by decide) ?_
    refine lv_aload_n hx hb dX3_handOver_171 rfl (lv_at hl 5 rfl) ?_
    refine lv_aload hx hb dX3_handOver_172 (lv_at hl 0 rfl) ?_
    refine bn_muv (bn_muV (As := [.ref (ba b 0)]) (rest := []) ⟨hx, hb, hml, hown, hts⟩ (cc_completeComes l D c h ad ba nv km _ (bc_dp C k) b hb1 hb2 hoa) (cwV 1 hts gX3_handOver_X3_completeComes rfl rfl rfl (by decide +kernel) ⟨Nat.le_of_ble_eq_true rfl, Nat.le_of_ble_eq_true rfl⟩) hK hI 0 2 rfl rfl rfl rfl hl.1 (Nat.le_of_ble_eq_true rfl) dX3_handOver_174 ⟨Nat.le_of_ble_eq_true rfl, Nat.le_of_ble_eq_true rfl⟩) hI hA (fun u_8 H locs eu_8 hI => ?_)
    subst eu_8
    refine lv_goto (tgt := 189) hx hb dX3_handOver_177 (by decide) ?_
    exact bn_retv hx hb hr hlocks hK (bc_co (bc_dp C k) b) hI (by show _ = bc_do (bc_dp C k) nv km 6 b v q g (C.1.2.2.2 14 k); unfold bc_do; rw [if_neg (by omega), if_neg (by omega), if_neg (by omega), if_neg (by omega), if_neg (by omega), if_pos rfl]) dX3_handOver_189
  · subst hw
    refine lv_tableIn (tgt := 180) hx hb dX3_handOver_72 (by decide) (by decide) rfl (by decide) ?_
    refine lv_aload_n hx hb dX3_handOver_180 rfl (lv_at hl 5 rfl) ?_
    refine lv_aload hx hb dX3_handOver_181 (lv_at hl 0 rfl) ?_
    refine bn_muv (bn_muV (As := [.ref (ba b 0)]) (rest := []) ⟨hx, hb, hml, hown, hts⟩ (cc_activeComes l D c h ad ba nv km _ (bc_dp C k) b hb1 hb2 ) (cwV 1 hts gX3_handOver_X3_activeComes rfl rfl rfl (by decide +kernel) ⟨Nat.le_of_ble_eq_true rfl, Nat.le_of_ble_eq_true rfl⟩) hK hI 0 2 rfl rfl rfl rfl hl.1 (Nat.le_of_ble_eq_true rfl) dX3_handOver_183 ⟨Nat.le_of_ble_eq_true rfl, Nat.le_of_ble_eq_true rfl⟩) hI hA (fun u_9 H locs eu_9 hI => ?_)
    subst eu_9
    refine lv_goto (tgt := 189) hx hb dX3_handOver_186 (by decide) ?_
    exact bn_retv hx hb hr hlocks hK (bc_ac (bc_dp C k) b) hI (by show _ = bc_do (bc_dp C k) nv km 7 b v q g (C.1.2.2.2 14 k); unfold bc_do; rw [if_neg (by omega), if_neg (by omega), if_neg (by omega), if_neg (by omega), if_neg (by omega), if_neg (by omega)]) dX3_handOver_189
set_option maxHeartbeats 4000000 in
set_option maxRecDepth 100000 in
theorem cc_promise (l : Launch) (D : va_G) (c : bh_C) (h : Nat) (ad : Nat → Nat) (ba : Nat → Nat → Nat) (nv km : Nat) (C : cS) (x : Int32) (hn : nv ≤ 7) : Met l yX3_promise wsX3_promise ({ frames := 1, cells := 0, slots := 0, locals := 21 }) (va_Pc [.ref h, .int (x)] (bh_pre D c (bh_cw h ad ba c nv km (C)))) (vp_Si (fun r => r = bc_mprom C nv x)) 0 0 (fun _ => False) := by
  refine Met.ofW (cc := cX3_promise) (maxL := 2) (ret := (some .int)) (by decide) rfl ?_
  intro p e s m args below meth c0 s₁ B hml hv
  obtain ⟨rfl, hP, hK, hD0⟩ := hv
  have hx := B.exec
  have hb := B.bytes
  have hr := B.returns
  have hts := atoms_spec (ws := wsX3_promise) B.pre
  have hown : s.vm.findClass RX3 = some m.cls := findClass_of_methodNamed B.named
  have hlocks := B.notSynchronized
  have hinX3 : ∀ w ∈ wsX30, w ∈ wsX3_promise := fun _ h => List.mem_cons_of_mem _ (List.mem_append_right _ h)
  have lk_22 : (Cond.fieldLink RX3 22 "BallotHouse" "promises" "[I").before _ s = true := hts _ (by decide +kernel)
  have hI : bh_I D (bh_cw h ad ba c nv km (C)) (fun _ => True) s.heap s.heap [] := ⟨hP, hD0, va_S.rf⟩
  have hl := lv_entry ([.ref h, .int (x)]) (n := 2) (Nat.le_of_ble_eq_true rfl)
  rw [lg_entry_eq]
  generalize (lg_sl ([.ref h, .int (x)]) ++ List.replicate (2 - (lg_sl ([.ref h, .int (x)])).length) Slot.unset).toArray = ls at hl ⊢
  have hl : lv_has ls 2 [(0, .ref h), (1, .int (x))] := hl
  rcases hx1 : bh_ix x nv with _ | v
  · refine lv_aload_n hx hb dX3_promise_0 rfl (lv_at hl 0 rfl) ?_
    refine lv_iload_n hx hb dX3_promise_1 rfl (lv_at hl 1 rfl) ?_
    refine vp_callSi (bn_roV (As := [.int (x)]) (rest := []) ⟨hx, hb, hml, hown, hts⟩ (cc_isVoter l D c h ad ba nv km (C) (x) hn) (cwV 1 hts gX3_promise_X3_isVoter rfl rfl rfl (by decide +kernel) ⟨Nat.le_of_ble_eq_true rfl, Nat.le_of_ble_eq_true rfl⟩) hK hI 0 2 rfl rfl rfl rfl hl.1 (Nat.le_of_ble_eq_true rfl) dX3_promise_2 ⟨Nat.le_of_ble_eq_true rfl, Nat.le_of_ble_eq_true rfl⟩) (fun r_1 er_1 => ?_)
    obtain rfl : r_1 = nI 0 := by rw [er_1, hx1]; rfl
    refine lv_if_eq (tgt := 17) hx hb dX3_promise_5 (by decide) (fun c_2 => ?_) (fun c_2 => ?_)
    · refine lv_iconst (v := -1) hx hb dX3_promise_17 (by decide) ?_
      exact bn_roti hx hb hr hlocks (by unfold bc_mprom; rw [hx1]) dX3_promise_18
    · first | exact absurd c_2 (by decide) | exact absurd (by decide) c_2
  · obtain ⟨hv, rfl⟩ := bh_ix_some hx1
    refine lv_aload_n hx hb dX3_promise_0 rfl (lv_at hl 0 rfl) ?_
    refine lv_iload_n hx hb dX3_promise_1 rfl (lv_at hl 1 rfl) ?_
    refine vp_callSi (bn_roV (As := [.int (nI v)]) (rest := []) ⟨hx, hb, hml, hown, hts⟩ (cc_isVoter l D c h ad ba nv km (C) (nI v) hn) (cwV 1 hts gX3_promise_X3_isVoter rfl rfl rfl (by decide +kernel) ⟨Nat.le_of_ble_eq_true rfl, Nat.le_of_ble_eq_true rfl⟩) hK hI 0 2 rfl rfl rfl rfl hl.1 (Nat.le_of_ble_eq_true rfl) dX3_promise_2 ⟨Nat.le_of_ble_eq_true rfl, Nat.le_of_ble_eq_true rfl⟩) (fun r_3 er_3 => ?_)
    obtain rfl : r_3 = nI 1 := by rw [er_3, hx1]; rfl
    refine lv_if_eq (tgt := 17) hx hb dX3_promise_5 (by decide) (fun c_4 => ?_) (fun c_4 => ?_)
    · first | exact absurd c_4 (by decide) | exact absurd (by decide) c_4
    · refine lv_aload_n hx hb dX3_promise_8 rfl (lv_at hl 0 rfl) ?_
      refine bn_get (ci := 2) (v := .ref (ad 1)) (C := RX3) (T := TX3) (N := 8) hx hb hts hinX3 hown hK hI 0 rfl rfl 1 (by decide) lk_22 rfl (rfl) dX3_promise_9 ?_
      refine lv_iload_n hx hb dX3_promise_12 rfl (lv_at hl 1 rfl) ?_
      refine bn_iald (n := nv) (v := C.1.2.2.1 1 v) hx hb hK hI 1 0 rfl rfl (by omega) (by first | decide | omega) (rfl) dX3_promise_13 ?_
      refine lv_goto (tgt := 18) hx hb dX3_promise_14 (by decide) ?_
      exact bn_roti hx hb hr hlocks (by unfold bc_mprom; rw [hx1]) dX3_promise_18
set_option maxHeartbeats 4000000 in
set_option maxRecDepth 100000 in
theorem cc_vote (l : Launch) (D : va_G) (c : bh_C) (h : Nat) (ad : Nat → Nat) (ba : Nat → Nat → Nat) (nv km : Nat) (C : cS) (x y : Int32) (hn : nv ≤ 7) : Met l yX3_vote wsX3_vote ({ frames := 1, cells := 0, slots := 0, locals := 22 }) (va_Pc [.ref h, .int (x), .int (y)] (bh_pre D c (bh_cw h ad ba c nv km (C)))) (vp_Si (fun r => r = bc_mvote C nv x y)) 0 0 (fun _ => False) := by
  refine Met.ofW (cc := cX3_vote) (maxL := 3) (ret := (some .int)) (by decide) rfl ?_
  intro p e s m args below meth c0 s₁ B hml hv
  obtain ⟨rfl, hP, hK, hD0⟩ := hv
  have hx := B.exec
  have hb := B.bytes
  have hr := B.returns
  have hts := atoms_spec (ws := wsX3_vote) B.pre
  have hown : s.vm.findClass RX3 = some m.cls := findClass_of_methodNamed B.named
  have hlocks := B.notSynchronized
  have hinX3 : ∀ w ∈ wsX30, w ∈ wsX3_vote := fun _ h => List.mem_cons_of_mem _ (List.mem_append_right _ h)
  have lk_26 : (Cond.fieldLink RX3 26 "BallotHouse" "votes" "[J").before _ s = true := hts _ (by decide +kernel)
  have hI : bh_I D (bh_cw h ad ba c nv km (C)) (fun _ => True) s.heap s.heap [] := ⟨hP, hD0, va_S.rf⟩
  have hl := lv_entry ([.ref h, .int (x), .int (y)]) (n := 3) (Nat.le_of_ble_eq_true rfl)
  rw [lg_entry_eq]
  generalize (lg_sl ([.ref h, .int (x), .int (y)]) ++ List.replicate (3 - (lg_sl ([.ref h, .int (x), .int (y)])).length) Slot.unset).toArray = ls at hl ⊢
  have hl : lv_has ls 3 [(0, .ref h), (1, .int (x)), (2, .int (y))] := hl
  rcases hx1 : bh_ix x nv with _ | v
  · refine lv_aload_n hx hb dX3_vote_0 rfl (lv_at hl 0 rfl) ?_
    refine lv_iload_n hx hb dX3_vote_1 rfl (lv_at hl 1 rfl) ?_
    refine vp_callSi (bn_roV (As := [.int (x)]) (rest := []) ⟨hx, hb, hml, hown, hts⟩ (cc_isVoter l D c h ad ba nv km (C) (x) hn) (cwV 1 hts gX3_vote_X3_isVoter rfl rfl rfl (by decide +kernel) ⟨Nat.le_of_ble_eq_true rfl, Nat.le_of_ble_eq_true rfl⟩) hK hI 0 2 rfl rfl rfl rfl hl.1 (Nat.le_of_ble_eq_true rfl) dX3_vote_2 ⟨Nat.le_of_ble_eq_true rfl, Nat.le_of_ble_eq_true rfl⟩) (fun r_1 er_1 => ?_)
    obtain rfl : r_1 = nI 0 := by rw [er_1, hx1]; rfl
    refine lv_if_eq (tgt := 28) hx hb dX3_vote_5 (by decide) (fun c_2 => ?_) (fun c_2 => ?_)
    · refine lv_iconst (v := -1) hx hb dX3_vote_28 (by decide) ?_
      exact bn_roti hx hb hr hlocks (by unfold bc_mvote; rw [hx1]) dX3_vote_29
    · first | exact absurd c_2 (by decide) | exact absurd (by decide) c_2
  · obtain ⟨hv, rfl⟩ := bh_ix_some hx1
    refine lv_aload_n hx hb dX3_vote_0 rfl (lv_at hl 0 rfl) ?_
    refine lv_iload_n hx hb dX3_vote_1 rfl (lv_at hl 1 rfl) ?_
    refine vp_callSi (bn_roV (As := [.int (nI v)]) (rest := []) ⟨hx, hb, hml, hown, hts⟩ (cc_isVoter l D c h ad ba nv km (C) (nI v) hn) (cwV 1 hts gX3_vote_X3_isVoter rfl rfl rfl (by decide +kernel) ⟨Nat.le_of_ble_eq_true rfl, Nat.le_of_ble_eq_true rfl⟩) hK hI 0 2 rfl rfl rfl rfl hl.1 (Nat.le_of_ble_eq_true rfl) dX3_vote_2 ⟨Nat.le_of_ble_eq_true rfl, Nat.le_of_ble_eq_true rfl⟩) (fun r_3 er_3 => ?_)
    obtain rfl : r_3 = nI 1 := by rw [er_3, hx1]; rfl
    refine lv_if_eq (tgt := 28) hx hb dX3_vote_5 (by decide) (fun c_4 => ?_) (fun c_4 => ?_)
    · first | exact absurd c_4 (by decide) | exact absurd (by decide) c_4
    · rcases hx2 : bh_ix y 8 with _ | q
      · refine lv_iload_n hx hb dX3_vote_8 rfl (lv_at hl 2 rfl) ?_
        refine vp_callSi (bn_roS (As := [.int (y)]) (rest := []) ⟨hx, hb, hml, hown, hts⟩ (cc_isPlace l (y)) (va_cwS 1 hts gX3_vote_X3_isPlace rfl rfl rfl (by decide +kernel) ⟨Nat.le_of_ble_eq_true rfl, Nat.le_of_ble_eq_true rfl⟩) rfl hl.1 (Nat.le_of_ble_eq_true rfl) dX3_vote_9 ⟨Nat.le_of_ble_eq_true rfl, Nat.le_of_ble_eq_true rfl⟩) (fun r_5 er_5 => ?_)
        obtain rfl : r_5 = nI 0 := by rw [er_5, hx2]; rfl
        refine lv_if_eq (tgt := 28) hx hb dX3_vote_12 (by decide) (fun c_6 => ?_) (fun c_6 => ?_)
        · refine lv_iconst (v := -1) hx hb dX3_vote_28 (by decide) ?_
          exact bn_roti hx hb hr hlocks (by unfold bc_mvote; rw [hx1]; dsimp only; rw [hx2]) dX3_vote_29
        · first | exact absurd c_6 (by decide) | exact absurd (by decide) c_6
      · obtain ⟨hq, rfl⟩ := bh_ix_some hx2
        refine lv_iload_n hx hb dX3_vote_8 rfl (lv_at hl 2 rfl) ?_
        refine vp_callSi (bn_roS (As := [.int (nI q)]) (rest := []) ⟨hx, hb, hml, hown, hts⟩ (cc_isPlace l (nI q)) (va_cwS 1 hts gX3_vote_X3_isPlace rfl rfl rfl (by decide +kernel) ⟨Nat.le_of_ble_eq_true rfl, Nat.le_of_ble_eq_true rfl⟩) rfl hl.1 (Nat.le_of_ble_eq_true rfl) dX3_vote_9 ⟨Nat.le_of_ble_eq_true rfl, Nat.le_of_ble_eq_true rfl⟩) (fun r_7 er_7 => ?_)
        obtain rfl : r_7 = nI 1 := by rw [er_7, hx2]; rfl
        refine lv_if_eq (tgt := 28) hx hb dX3_vote_12 (by decide) (fun c_8 => ?_) (fun c_8 => ?_)
        · first | exact absurd c_8 (by decide) | exact absurd (by decide) c_8
        · refine lv_aload_n hx hb dX3_vote_15 rfl (lv_at hl 0 rfl) ?_
          refine bn_get (ci := 2) (v := .ref (ad 2)) (C := RX3) (T := TX3) (N := 8) hx hb hts hinX3 hown hK hI 0 rfl rfl 2 (by decide) lk_26 rfl (rfl) dX3_vote_16 ?_
          refine lv_iload_n hx hb dX3_vote_19 rfl (lv_at hl 1 rfl) ?_
          refine bn_lald (n := nv) (v := C.1.2.2.2 2 v) hx hb hK hI 2 1 rfl rfl (by omega) (by first | decide | omega) (rfl) dX3_vote_20 ?_
          refine lv_iload_n hx hb dX3_vote_21 rfl (lv_at hl 2 rfl) ?_
          refine vp_callSi (bn_roS (As := [.long (C.1.2.2.2 2 v), .int (nI q)]) (rest := []) ⟨hx, hb, hml, hown, hts⟩ (cc_at l (C.1.2.2.2 2 v) (q)) (va_cwS 2 hts gX3_vote_X2_at rfl rfl rfl (by decide +kernel) ⟨Nat.le_of_ble_eq_true rfl, Nat.le_of_ble_eq_true rfl⟩) rfl hl.1 (Nat.le_of_ble_eq_true rfl) dX3_vote_22 ⟨Nat.le_of_ble_eq_true rfl, Nat.le_of_ble_eq_true rfl⟩) (fun r_9 er_9 => ?_)
          subst er_9
          refine lv_goto (tgt := 29) hx hb dX3_vote_25 (by decide) ?_
          exact bn_roti hx hb hr hlocks (by unfold bc_mvote; rw [hx1]; dsimp only; rw [hx2]) dX3_vote_29
set_option maxHeartbeats 4000000 in
set_option maxRecDepth 100000 in
theorem cc_value (l : Launch) (D : va_G) (c : bh_C) (h : Nat) (ad : Nat → Nat) (ba : Nat → Nat → Nat) (nv km : Nat) (C : cS) (x y : Int32) (hn : nv ≤ 7) (hk24 : km ≤ 24) : Met l yX3_value wsX3_value ({ frames := 1, cells := 0, slots := 0, locals := 22 }) (va_Pc [.ref h, .int (x), .int (y)] (bh_pre D c (bh_cw h ad ba c nv km (C)))) (vp_Sl (fun r => r = bc_mvalue C nv km x y)) 0 0 (fun _ => False) := by
  refine Met.ofW (cc := cX3_value) (maxL := 4) (ret := (some .long)) (by decide) rfl ?_
  intro p e s m args below meth c0 s₁ B hml hv
  obtain ⟨rfl, hP, hK, hD0⟩ := hv
  have hx := B.exec
  have hb := B.bytes
  have hr := B.returns
  have hts := atoms_spec (ws := wsX3_value) B.pre
  have hown : s.vm.findClass RX3 = some m.cls := findClass_of_methodNamed B.named
  have hlocks := B.notSynchronized
  have hinX3 : ∀ w ∈ wsX30, w ∈ wsX3_value := fun _ h => List.mem_cons_of_mem _ (List.mem_append_left _ (List.mem_append_right _ h))
  have hinX1 : ∀ w ∈ wsX10, w ∈ wsX3_value := fun _ h => List.mem_cons_of_mem _ (List.mem_append_right _ h)
  have lk_26 : (Cond.fieldLink RX3 26 "BallotHouse" "votes" "[J").before _ s = true := hts _ (by decide +kernel)
  have lk_81 : (Cond.fieldLink RX3 81 "BallotHouse$Ballot" "words" "[J").before _ s = true := hts _ (by decide +kernel)
  have hI : bh_I D (bh_cw h ad ba c nv km (C)) (fun _ => True) s.heap s.heap [] := ⟨hP, hD0, va_S.rf⟩
  have hl := lv_entry ([.ref h, .int (x), .int (y)]) (n := 4) (Nat.le_of_ble_eq_true rfl)
  rw [lg_entry_eq]
  generalize (lg_sl ([.ref h, .int (x), .int (y)]) ++ List.replicate (4 - (lg_sl ([.ref h, .int (x), .int (y)])).length) Slot.unset).toArray = ls at hl ⊢
  have hl : lv_has ls 4 [(0, .ref h), (1, .int (x)), (2, .int (y))] := hl
  rcases hx1 : bh_ix x nv with _ | v
  · refine lv_aload_n hx hb dX3_value_0 rfl (lv_at hl 0 rfl) ?_
    refine lv_iload_n hx hb dX3_value_1 rfl (lv_at hl 1 rfl) ?_
    refine vp_callSi (bn_roV (As := [.int (x)]) (rest := []) ⟨hx, hb, hml, hown, hts⟩ (cc_isVoter l D c h ad ba nv km (C) (x) hn) (cwV 1 hts gX3_value_X3_isVoter rfl rfl rfl (by decide +kernel) ⟨Nat.le_of_ble_eq_true rfl, Nat.le_of_ble_eq_true rfl⟩) hK hI 0 2 rfl rfl rfl rfl hl.1 (Nat.le_of_ble_eq_true rfl) dX3_value_2 ⟨Nat.le_of_ble_eq_true rfl, Nat.le_of_ble_eq_true rfl⟩) (fun r_1 er_1 => ?_)
    obtain rfl : r_1 = nI 0 := by rw [er_1, hx1]; rfl
    refine lv_if_eq (tgt := 15) hx hb dX3_value_5 (by decide) (fun c_2 => ?_) (fun c_2 => ?_)
    · refine lv_lconst (v := 0) hx hb dX3_value_15 (by decide) ?_
      exact bn_rotl hx hb hr hlocks (by unfold bc_mvalue; rw [hx1]) dX3_value_16
    · first | exact absurd c_2 (by decide) | exact absurd (by decide) c_2
  · obtain ⟨hv, rfl⟩ := bh_ix_some hx1
    refine lv_aload_n hx hb dX3_value_0 rfl (lv_at hl 0 rfl) ?_
    refine lv_iload_n hx hb dX3_value_1 rfl (lv_at hl 1 rfl) ?_
    refine vp_callSi (bn_roV (As := [.int (nI v)]) (rest := []) ⟨hx, hb, hml, hown, hts⟩ (cc_isVoter l D c h ad ba nv km (C) (nI v) hn) (cwV 1 hts gX3_value_X3_isVoter rfl rfl rfl (by decide +kernel) ⟨Nat.le_of_ble_eq_true rfl, Nat.le_of_ble_eq_true rfl⟩) hK hI 0 2 rfl rfl rfl rfl hl.1 (Nat.le_of_ble_eq_true rfl) dX3_value_2 ⟨Nat.le_of_ble_eq_true rfl, Nat.le_of_ble_eq_true rfl⟩) (fun r_3 er_3 => ?_)
    obtain rfl : r_3 = nI 1 := by rw [er_3, hx1]; rfl
    refine lv_if_eq (tgt := 15) hx hb dX3_value_5 (by decide) (fun c_4 => ?_) (fun c_4 => ?_)
    · first | exact absurd c_4 (by decide) | exact absurd (by decide) c_4
    · rcases hx2 : bh_ix y 8 with _ | q
      · refine lv_iload_n hx hb dX3_value_8 rfl (lv_at hl 2 rfl) ?_
        refine vp_callSi (bn_roS (As := [.int (y)]) (rest := []) ⟨hx, hb, hml, hown, hts⟩ (cc_isPlace l (y)) (va_cwS 1 hts gX3_value_X3_isPlace rfl rfl rfl (by decide +kernel) ⟨Nat.le_of_ble_eq_true rfl, Nat.le_of_ble_eq_true rfl⟩) rfl hl.1 (Nat.le_of_ble_eq_true rfl) dX3_value_9 ⟨Nat.le_of_ble_eq_true rfl, Nat.le_of_ble_eq_true rfl⟩) (fun r_5 er_5 => ?_)
        obtain rfl : r_5 = nI 0 := by rw [er_5, hx2]; rfl
        refine lv_if_ne (tgt := 17) hx hb dX3_value_12 (by decide) (fun c_6 => ?_) (fun c_6 => ?_)
        · first | exact absurd c_6 (by decide) | exact absurd (by decide) c_6
        · refine lv_lconst (v := 0) hx hb dX3_value_15 (by decide) ?_
          exact bn_rotl hx hb hr hlocks (by unfold bc_mvalue; rw [hx1]; dsimp only; rw [hx2]) dX3_value_16
      · obtain ⟨hq, rfl⟩ := bh_ix_some hx2
        refine lv_iload_n hx hb dX3_value_8 rfl (lv_at hl 2 rfl) ?_
        refine vp_callSi (bn_roS (As := [.int (nI q)]) (rest := []) ⟨hx, hb, hml, hown, hts⟩ (cc_isPlace l (nI q)) (va_cwS 1 hts gX3_value_X3_isPlace rfl rfl rfl (by decide +kernel) ⟨Nat.le_of_ble_eq_true rfl, Nat.le_of_ble_eq_true rfl⟩) rfl hl.1 (Nat.le_of_ble_eq_true rfl) dX3_value_9 ⟨Nat.le_of_ble_eq_true rfl, Nat.le_of_ble_eq_true rfl⟩) (fun r_7 er_7 => ?_)
        obtain rfl : r_7 = nI 1 := by rw [er_7, hx2]; rfl
        refine lv_if_ne (tgt := 17) hx hb dX3_value_12 (by decide) (fun c_8 => ?_) (fun c_8 => ?_)
        · rcases hx3 : bh_ixb (bh_at (C.1.2.2.2 2 v) q) km with _ | j_
          · refine lv_aload_n hx hb dX3_value_17 rfl (lv_at hl 0 rfl) ?_
            refine lv_aload_n hx hb dX3_value_18 rfl (lv_at hl 0 rfl) ?_
            refine bn_get (ci := 2) (v := .ref (ad 2)) (C := RX3) (T := TX3) (N := 8) hx hb hts hinX3 hown hK hI 0 rfl rfl 2 (by decide) lk_26 rfl (rfl) dX3_value_19 ?_
            refine lv_iload_n hx hb dX3_value_22 rfl (lv_at hl 1 rfl) ?_
            refine bn_lald (n := nv) (v := C.1.2.2.2 2 v) hx hb hK hI 2 1 rfl rfl (by omega) (by first | decide | omega) (rfl) dX3_value_23 ?_
            refine lv_iload_n hx hb dX3_value_24 rfl (lv_at hl 2 rfl) ?_
            refine vp_callSi (bn_roS (As := [.long (C.1.2.2.2 2 v), .int (nI q)]) (rest := [.ref h]) ⟨hx, hb, hml, hown, hts⟩ (cc_at l (C.1.2.2.2 2 v) (q)) (va_cwS 2 hts gX3_value_X2_at rfl rfl rfl (by decide +kernel) ⟨Nat.le_of_ble_eq_true rfl, Nat.le_of_ble_eq_true rfl⟩) rfl hl.1 (Nat.le_of_ble_eq_true rfl) dX3_value_25 ⟨Nat.le_of_ble_eq_true rfl, Nat.le_of_ble_eq_true rfl⟩) (fun r_9 er_9 => ?_)
            subst er_9
            refine va_csq (bn_roV (As := [.int (bh_at (C.1.2.2.2 2 v) q)]) (rest := []) ⟨hx, hb, hml, hown, hts⟩ (cc_findN l D c h ad ba nv km C (bh_at (C.1.2.2.2 2 v) q) hx3 hk24) (cwV 1 hts gX3_value_X3_find rfl rfl rfl (by decide +kernel) ⟨Nat.le_of_ble_eq_true rfl, Nat.le_of_ble_eq_true rfl⟩) hK hI 0 2 rfl rfl rfl rfl hl.1 (Nat.le_of_ble_eq_true rfl) dX3_value_28 ⟨Nat.le_of_ble_eq_true rfl, Nat.le_of_ble_eq_true rfl⟩) (fun r_10 er_10 => ?_)
            subst er_10
            refine lv_astore_nN (lv' := [(3, .null), (0, .ref h), (1, .int (nI v)), (2, .int (nI q))]) hx hb dX3_value_31 rfl hl (by decide) rfl (fun ls hl => ?_)
            refine lv_aload_nN hx hb dX3_value_32 rfl (lv_at hl 0 rfl) ?_
            refine lv_ifnonnullN hx hb dX3_value_33 ?_
            refine lv_lconst (v := 0) hx hb dX3_value_36 (by decide) ?_
            refine lv_goto (tgt := 46) hx hb dX3_value_37 (by decide) ?_
            exact bn_rotl hx hb hr hlocks (by unfold bc_mvalue; rw [hx1]; dsimp only; rw [hx2]; show _ = bc_vaw C km (C.1.2.2.2 2 v) q; unfold bc_vaw; rw [hx3]) dX3_value_46
          · obtain ⟨hj_1, hj_2, ej_⟩ := bh_ixb_some hx3
            refine lv_aload_n hx hb dX3_value_17 rfl (lv_at hl 0 rfl) ?_
            refine lv_aload_n hx hb dX3_value_18 rfl (lv_at hl 0 rfl) ?_
            refine bn_get (ci := 2) (v := .ref (ad 2)) (C := RX3) (T := TX3) (N := 8) hx hb hts hinX3 hown hK hI 0 rfl rfl 2 (by decide) lk_26 rfl (rfl) dX3_value_19 ?_
            refine lv_iload_n hx hb dX3_value_22 rfl (lv_at hl 1 rfl) ?_
            refine bn_lald (n := nv) (v := C.1.2.2.2 2 v) hx hb hK hI 2 1 rfl rfl (by omega) (by first | decide | omega) (rfl) dX3_value_23 ?_
            refine lv_iload_n hx hb dX3_value_24 rfl (lv_at hl 2 rfl) ?_
            refine vp_callSi (bn_roS (As := [.long (C.1.2.2.2 2 v), .int (nI q)]) (rest := [.ref h]) ⟨hx, hb, hml, hown, hts⟩ (cc_at l (C.1.2.2.2 2 v) (q)) (va_cwS 2 hts gX3_value_X2_at rfl rfl rfl (by decide +kernel) ⟨Nat.le_of_ble_eq_true rfl, Nat.le_of_ble_eq_true rfl⟩) rfl hl.1 (Nat.le_of_ble_eq_true rfl) dX3_value_25 ⟨Nat.le_of_ble_eq_true rfl, Nat.le_of_ble_eq_true rfl⟩) (fun r_11 er_11 => ?_)
            subst er_11
            refine va_csq (bn_roV (As := [.int (bh_at (C.1.2.2.2 2 v) q)]) (rest := []) ⟨hx, hb, hml, hown, hts⟩ (by rw [ej_]; exact cc_find l D c h ad ba nv km C j_ hj_1 hj_2 hk24) (cwV 1 hts gX3_value_X3_find rfl rfl rfl (by decide +kernel) ⟨Nat.le_of_ble_eq_true rfl, Nat.le_of_ble_eq_true rfl⟩) hK hI 0 2 rfl rfl rfl rfl hl.1 (Nat.le_of_ble_eq_true rfl) dX3_value_28 ⟨Nat.le_of_ble_eq_true rfl, Nat.le_of_ble_eq_true rfl⟩) (fun r_12 er_12 => ?_)
            subst er_12
            refine lv_astore_n (lv' := [(3, .ref (ba j_ 0)), (0, .ref h), (1, .int (nI v)), (2, .int (nI q))]) hx hb dX3_value_31 rfl hl (by decide) rfl (fun ls hl => ?_)
            refine lv_aload_n hx hb dX3_value_32 rfl (lv_at hl 0 rfl) ?_
            refine lv_ifnonnull (tgt := 40) hx hb dX3_value_33 (by decide) ?_
            refine lv_aload_n hx hb dX3_value_40 rfl (lv_at hl 0 rfl) ?_
            refine bn_get (ci := 1) (v := .ref (ba j_ 2)) (C := RX1) (T := TX1) (N := 14) hx hb hts hinX1 hown hK hI (10 + (5 * (j_ - 1) + 0)) ((bh_cw_b hj_1 hj_2 0 (by decide)).trans rfl) rfl 11 (by decide) lk_81 rfl (rfl) dX3_value_41 ?_
            refine lv_iload_n hx hb dX3_value_44 rfl (lv_at hl 3 rfl) ?_
            refine bn_lald (n := 8) (v := C.2.2.2 j_ q) hx hb hK hI (10 + (5 * (j_ - 1) + 2)) 1 ((bh_cw_b hj_1 hj_2 2 (by decide)).trans rfl) rfl (by omega) (by first | decide | omega) (rfl) dX3_value_45 ?_
            exact bn_rotl hx hb hr hlocks (by unfold bc_mvalue; rw [hx1]; dsimp only; rw [hx2]; show _ = bc_vaw C km (C.1.2.2.2 2 v) q; unfold bc_vaw; rw [hx3]) dX3_value_46
        · first | exact absurd c_8 (by decide) | exact absurd (by decide) c_8
set_option maxHeartbeats 4000000 in
set_option maxRecDepth 100000 in
theorem cc_answered (l : Launch) (D : va_G) (c : bh_C) (h : Nat) (ad : Nat → Nat) (ba : Nat → Nat → Nat) (nv km : Nat) (C : cS) (x y : Int32) (hk24 : km ≤ 24) : Met l yX3_answered wsX3_answered ({ frames := 1, cells := 0, slots := 0, locals := 21 }) (va_Pc [.ref h, .int (x), .int (y)] (bh_pre D c (bh_cw h ad ba c nv km (C)))) (vp_Si (fun r => r = bc_mansw C km x y)) 0 0 (fun _ => False) := by
  refine Met.ofW (cc := cX3_answered) (maxL := 4) (ret := (some .int)) (by decide) rfl ?_
  intro p e s m args below meth c0 s₁ B hml hv
  obtain ⟨rfl, hP, hK, hD0⟩ := hv
  have hx := B.exec
  have hb := B.bytes
  have hr := B.returns
  have hts := atoms_spec (ws := wsX3_answered) B.pre
  have hown : s.vm.findClass RX3 = some m.cls := findClass_of_methodNamed B.named
  have hlocks := B.notSynchronized
  have hinX1 : ∀ w ∈ wsX10, w ∈ wsX3_answered := fun _ h => List.mem_cons_of_mem _ (List.mem_append_left _ (List.mem_append_right _ h))
  have hinX3 : ∀ w ∈ wsX30, w ∈ wsX3_answered := fun _ h => List.mem_cons_of_mem _ (List.mem_append_right _ h)
  have lk_154 : (Cond.fieldLink RX3 154 "BallotHouse$Ballot" "voteAnswers" "[I").before _ s = true := hts _ (by decide +kernel)
  have hI : bh_I D (bh_cw h ad ba c nv km (C)) (fun _ => True) s.heap s.heap [] := ⟨hP, hD0, va_S.rf⟩
  have hl := lv_entry ([.ref h, .int (x), .int (y)]) (n := 4) (Nat.le_of_ble_eq_true rfl)
  rw [lg_entry_eq]
  generalize (lg_sl ([.ref h, .int (x), .int (y)]) ++ List.replicate (4 - (lg_sl ([.ref h, .int (x), .int (y)])).length) Slot.unset).toArray = ls at hl ⊢
  have hl : lv_has ls 4 [(0, .ref h), (1, .int (x)), (2, .int (y))] := hl
  rcases hx1 : bh_ixb x km with _ | b
  · refine lv_aload_n hx hb dX3_answered_0 rfl (lv_at hl 0 rfl) ?_
    refine lv_iload_n hx hb dX3_answered_1 rfl (lv_at hl 1 rfl) ?_
    refine va_csq (bn_roV (As := [.int (x)]) (rest := []) ⟨hx, hb, hml, hown, hts⟩ (cc_findN l D c h ad ba nv km (C) x hx1 hk24) (cwV 1 hts gX3_answered_X3_find rfl rfl rfl (by decide +kernel) ⟨Nat.le_of_ble_eq_true rfl, Nat.le_of_ble_eq_true rfl⟩) hK hI 0 2 rfl rfl rfl rfl hl.1 (Nat.le_of_ble_eq_true rfl) dX3_answered_2 ⟨Nat.le_of_ble_eq_true rfl, Nat.le_of_ble_eq_true rfl⟩) (fun r_1 er_1 => ?_)
    subst er_1
    refine lv_astore_nN (lv' := [(3, .null), (0, .ref h), (1, .int (x)), (2, .int (y))]) hx hb dX3_answered_5 rfl hl (by decide) rfl (fun ls hl => ?_)
    refine lv_aload_nN hx hb dX3_answered_6 rfl (lv_at hl 0 rfl) ?_
    refine lv_ifnullN (tgt := 26) hx hb dX3_answered_7 (by decide) ?_
    refine lv_iconst (v := -1) hx hb dX3_answered_26 (by decide) ?_
    exact bn_roti hx hb hr hlocks (by unfold bc_mansw; rw [hx1]) dX3_answered_27
  · obtain ⟨hb1, hb2, rfl⟩ := bh_ixb_some hx1
    refine lv_aload_n hx hb dX3_answered_0 rfl (lv_at hl 0 rfl) ?_
    refine lv_iload_n hx hb dX3_answered_1 rfl (lv_at hl 1 rfl) ?_
    refine va_csq (bn_roV (As := [.int (nI b)]) (rest := []) ⟨hx, hb, hml, hown, hts⟩ (cc_find l D c h ad ba nv km (C) b hb1 hb2 hk24) (cwV 1 hts gX3_answered_X3_find rfl rfl rfl (by decide +kernel) ⟨Nat.le_of_ble_eq_true rfl, Nat.le_of_ble_eq_true rfl⟩) hK hI 0 2 rfl rfl rfl rfl hl.1 (Nat.le_of_ble_eq_true rfl) dX3_answered_2 ⟨Nat.le_of_ble_eq_true rfl, Nat.le_of_ble_eq_true rfl⟩) (fun r_2 er_2 => ?_)
    subst er_2
    refine lv_astore_n (lv' := [(3, .ref (ba b 0)), (0, .ref h), (1, .int (nI b)), (2, .int (y))]) hx hb dX3_answered_5 rfl hl (by decide) rfl (fun ls hl => ?_)
    refine lv_aload_n hx hb dX3_answered_6 rfl (lv_at hl 0 rfl) ?_
    refine lv_ifnull hx hb dX3_answered_7 ?_
    rcases hx2 : bh_ix y 8 with _ | q
    · refine lv_iload_n hx hb dX3_answered_10 rfl (lv_at hl 3 rfl) ?_
      refine vp_callSi (bn_roS (As := [.int (y)]) (rest := []) ⟨hx, hb, hml, hown, hts⟩ (cc_isPlace l (y)) (va_cwS 1 hts gX3_answered_X3_isPlace rfl rfl rfl (by decide +kernel) ⟨Nat.le_of_ble_eq_true rfl, Nat.le_of_ble_eq_true rfl⟩) rfl hl.1 (Nat.le_of_ble_eq_true rfl) dX3_answered_11 ⟨Nat.le_of_ble_eq_true rfl, Nat.le_of_ble_eq_true rfl⟩) (fun r_3 er_3 => ?_)
      obtain rfl : r_3 = nI 0 := by rw [er_3, hx2]; rfl
      refine lv_if_eq (tgt := 26) hx hb dX3_answered_14 (by decide) (fun c_4 => ?_) (fun c_4 => ?_)
      · refine lv_iconst (v := -1) hx hb dX3_answered_26 (by decide) ?_
        exact bn_roti hx hb hr hlocks (by unfold bc_mansw; rw [hx1]; dsimp only; rw [hx2]) dX3_answered_27
      · first | exact absurd c_4 (by decide) | exact absurd (by decide) c_4
    · obtain ⟨hq, rfl⟩ := bh_ix_some hx2
      refine lv_iload_n hx hb dX3_answered_10 rfl (lv_at hl 3 rfl) ?_
      refine vp_callSi (bn_roS (As := [.int (nI q)]) (rest := []) ⟨hx, hb, hml, hown, hts⟩ (cc_isPlace l (nI q)) (va_cwS 1 hts gX3_answered_X3_isPlace rfl rfl rfl (by decide +kernel) ⟨Nat.le_of_ble_eq_true rfl, Nat.le_of_ble_eq_true rfl⟩) rfl hl.1 (Nat.le_of_ble_eq_true rfl) dX3_answered_11 ⟨Nat.le_of_ble_eq_true rfl, Nat.le_of_ble_eq_true rfl⟩) (fun r_5 er_5 => ?_)
      obtain rfl : r_5 = nI 1 := by rw [er_5, hx2]; rfl
      refine lv_if_eq (tgt := 26) hx hb dX3_answered_14 (by decide) (fun c_6 => ?_) (fun c_6 => ?_)
      · first | exact absurd c_6 (by decide) | exact absurd (by decide) c_6
      · refine lv_aload_n hx hb dX3_answered_17 rfl (lv_at hl 0 rfl) ?_
        refine bn_get (ci := 1) (v := .ref (ba b 3)) (C := RX1) (T := TX1) (N := 14) hx hb hts hinX1 hown hK hI (10 + (5 * (b - 1) + 0)) ((bh_cw_b hb1 hb2 0 (by decide)).trans rfl) rfl 12 (by decide) lk_154 rfl (rfl) dX3_answered_18 ?_
        refine lv_iload_n hx hb dX3_answered_21 rfl (lv_at hl 3 rfl) ?_
        refine bn_iald (n := 8) (v := C.2.2.1 12 b q) hx hb hK hI (10 + (5 * (b - 1) + 3)) 0 ((bh_cw_b hb1 hb2 3 (by decide)).trans rfl) rfl (by omega) (by first | decide | omega) (rfl) dX3_answered_22 ?_
        refine lv_goto (tgt := 27) hx hb dX3_answered_23 (by decide) ?_
        exact bn_roti hx hb hr hlocks (by unfold bc_mansw; rw [hx1]; dsimp only; rw [hx2]) dX3_answered_27
set_option maxHeartbeats 4000000 in
set_option maxRecDepth 100000 in
theorem cc_said (l : Launch) (D : va_G) (c : bh_C) (h : Nat) (ad : Nat → Nat) (ba : Nat → Nat → Nat) (nv km : Nat) (C : cS) (x y : Int32) (hk24 : km ≤ 24) : Met l yX3_said wsX3_said ({ frames := 1, cells := 0, slots := 0, locals := 21 }) (va_Pc [.ref h, .int (x), .int (y)] (bh_pre D c (bh_cw h ad ba c nv km (C)))) (vp_Sl (fun r => r = bc_msaid C km x y)) 0 0 (fun _ => False) := by
  refine Met.ofW (cc := cX3_said) (maxL := 4) (ret := (some .long)) (by decide) rfl ?_
  intro p e s m args below meth c0 s₁ B hml hv
  obtain ⟨rfl, hP, hK, hD0⟩ := hv
  have hx := B.exec
  have hb := B.bytes
  have hr := B.returns
  have hts := atoms_spec (ws := wsX3_said) B.pre
  have hown : s.vm.findClass RX3 = some m.cls := findClass_of_methodNamed B.named
  have hlocks := B.notSynchronized
  have hinX1 : ∀ w ∈ wsX10, w ∈ wsX3_said := fun _ h => List.mem_cons_of_mem _ (List.mem_append_left _ (List.mem_append_right _ h))
  have hinX3 : ∀ w ∈ wsX30, w ∈ wsX3_said := fun _ h => List.mem_cons_of_mem _ (List.mem_append_right _ h)
  have lk_81 : (Cond.fieldLink RX3 81 "BallotHouse$Ballot" "words" "[J").before _ s = true := hts _ (by decide +kernel)
  have hI : bh_I D (bh_cw h ad ba c nv km (C)) (fun _ => True) s.heap s.heap [] := ⟨hP, hD0, va_S.rf⟩
  have hl := lv_entry ([.ref h, .int (x), .int (y)]) (n := 4) (Nat.le_of_ble_eq_true rfl)
  rw [lg_entry_eq]
  generalize (lg_sl ([.ref h, .int (x), .int (y)]) ++ List.replicate (4 - (lg_sl ([.ref h, .int (x), .int (y)])).length) Slot.unset).toArray = ls at hl ⊢
  have hl : lv_has ls 4 [(0, .ref h), (1, .int (x)), (2, .int (y))] := hl
  rcases hx1 : bh_ixb x km with _ | b
  · refine lv_aload_n hx hb dX3_said_0 rfl (lv_at hl 0 rfl) ?_
    refine lv_iload_n hx hb dX3_said_1 rfl (lv_at hl 1 rfl) ?_
    refine va_csq (bn_roV (As := [.int (x)]) (rest := []) ⟨hx, hb, hml, hown, hts⟩ (cc_findN l D c h ad ba nv km (C) x hx1 hk24) (cwV 1 hts gX3_said_X3_find rfl rfl rfl (by decide +kernel) ⟨Nat.le_of_ble_eq_true rfl, Nat.le_of_ble_eq_true rfl⟩) hK hI 0 2 rfl rfl rfl rfl hl.1 (Nat.le_of_ble_eq_true rfl) dX3_said_2 ⟨Nat.le_of_ble_eq_true rfl, Nat.le_of_ble_eq_true rfl⟩) (fun r_1 er_1 => ?_)
    subst er_1
    refine lv_astore_nN (lv' := [(3, .null), (0, .ref h), (1, .int (x)), (2, .int (y))]) hx hb dX3_said_5 rfl hl (by decide) rfl (fun ls hl => ?_)
    refine lv_aload_nN hx hb dX3_said_6 rfl (lv_at hl 0 rfl) ?_
    refine lv_ifnullN (tgt := 26) hx hb dX3_said_7 (by decide) ?_
    refine lv_lconst (v := 0) hx hb dX3_said_26 (by decide) ?_
    exact bn_rotl hx hb hr hlocks (by unfold bc_msaid; rw [hx1]) dX3_said_27
  · obtain ⟨hb1, hb2, rfl⟩ := bh_ixb_some hx1
    refine lv_aload_n hx hb dX3_said_0 rfl (lv_at hl 0 rfl) ?_
    refine lv_iload_n hx hb dX3_said_1 rfl (lv_at hl 1 rfl) ?_
    refine va_csq (bn_roV (As := [.int (nI b)]) (rest := []) ⟨hx, hb, hml, hown, hts⟩ (cc_find l D c h ad ba nv km (C) b hb1 hb2 hk24) (cwV 1 hts gX3_said_X3_find rfl rfl rfl (by decide +kernel) ⟨Nat.le_of_ble_eq_true rfl, Nat.le_of_ble_eq_true rfl⟩) hK hI 0 2 rfl rfl rfl rfl hl.1 (Nat.le_of_ble_eq_true rfl) dX3_said_2 ⟨Nat.le_of_ble_eq_true rfl, Nat.le_of_ble_eq_true rfl⟩) (fun r_2 er_2 => ?_)
    subst er_2
    refine lv_astore_n (lv' := [(3, .ref (ba b 0)), (0, .ref h), (1, .int (nI b)), (2, .int (y))]) hx hb dX3_said_5 rfl hl (by decide) rfl (fun ls hl => ?_)
    refine lv_aload_n hx hb dX3_said_6 rfl (lv_at hl 0 rfl) ?_
    refine lv_ifnull hx hb dX3_said_7 ?_
    rcases hx2 : bh_ix y 8 with _ | q
    · refine lv_iload_n hx hb dX3_said_10 rfl (lv_at hl 3 rfl) ?_
      refine vp_callSi (bn_roS (As := [.int (y)]) (rest := []) ⟨hx, hb, hml, hown, hts⟩ (cc_isPlace l (y)) (va_cwS 1 hts gX3_said_X3_isPlace rfl rfl rfl (by decide +kernel) ⟨Nat.le_of_ble_eq_true rfl, Nat.le_of_ble_eq_true rfl⟩) rfl hl.1 (Nat.le_of_ble_eq_true rfl) dX3_said_11 ⟨Nat.le_of_ble_eq_true rfl, Nat.le_of_ble_eq_true rfl⟩) (fun r_3 er_3 => ?_)
      obtain rfl : r_3 = nI 0 := by rw [er_3, hx2]; rfl
      refine lv_if_eq (tgt := 26) hx hb dX3_said_14 (by decide) (fun c_4 => ?_) (fun c_4 => ?_)
      · refine lv_lconst (v := 0) hx hb dX3_said_26 (by decide) ?_
        exact bn_rotl hx hb hr hlocks (by unfold bc_msaid; rw [hx1]; dsimp only; rw [hx2]) dX3_said_27
      · first | exact absurd c_4 (by decide) | exact absurd (by decide) c_4
    · obtain ⟨hq, rfl⟩ := bh_ix_some hx2
      refine lv_iload_n hx hb dX3_said_10 rfl (lv_at hl 3 rfl) ?_
      refine vp_callSi (bn_roS (As := [.int (nI q)]) (rest := []) ⟨hx, hb, hml, hown, hts⟩ (cc_isPlace l (nI q)) (va_cwS 1 hts gX3_said_X3_isPlace rfl rfl rfl (by decide +kernel) ⟨Nat.le_of_ble_eq_true rfl, Nat.le_of_ble_eq_true rfl⟩) rfl hl.1 (Nat.le_of_ble_eq_true rfl) dX3_said_11 ⟨Nat.le_of_ble_eq_true rfl, Nat.le_of_ble_eq_true rfl⟩) (fun r_5 er_5 => ?_)
      obtain rfl : r_5 = nI 1 := by rw [er_5, hx2]; rfl
      refine lv_if_eq (tgt := 26) hx hb dX3_said_14 (by decide) (fun c_6 => ?_) (fun c_6 => ?_)
      · first | exact absurd c_6 (by decide) | exact absurd (by decide) c_6
      · refine lv_aload_n hx hb dX3_said_17 rfl (lv_at hl 0 rfl) ?_
        refine bn_get (ci := 1) (v := .ref (ba b 2)) (C := RX1) (T := TX1) (N := 14) hx hb hts hinX1 hown hK hI (10 + (5 * (b - 1) + 0)) ((bh_cw_b hb1 hb2 0 (by decide)).trans rfl) rfl 11 (by decide) lk_81 rfl (rfl) dX3_said_18 ?_
        refine lv_iload_n hx hb dX3_said_21 rfl (lv_at hl 3 rfl) ?_
        refine bn_lald (n := 8) (v := C.2.2.2 b q) hx hb hK hI (10 + (5 * (b - 1) + 2)) 1 ((bh_cw_b hb1 hb2 2 (by decide)).trans rfl) rfl (by omega) (by first | decide | omega) (rfl) dX3_said_22 ?_
        refine lv_goto (tgt := 27) hx hb dX3_said_23 (by decide) ?_
        exact bn_rotl hx hb hr hlocks (by unfold bc_msaid; rw [hx1]; dsimp only; rw [hx2]) dX3_said_27
set_option maxHeartbeats 4000000 in
set_option maxRecDepth 100000 in
theorem cc_of (l : Launch) (D : va_G) (c : bh_C) (h : Nat) (ad : Nat → Nat) (ba : Nat → Nat → Nat) (nv km : Nat) (C : cS) (x y : Int32) (hk24 : km ≤ 24) : Met l yX3_of wsX3_of ({ frames := 3, cells := 0, slots := 0, locals := 63 }) (va_Pc [.ref h, .int (x), .int (y)] (bh_pre D c (bh_cw h ad ba c nv km (C)))) (vp_Si (fun r => r = bc_mof C km x y)) 0 0 (fun _ => False) := by
  refine Met.ofW (cc := cX3_of) (maxL := 4) (ret := (some .int)) (by decide) rfl ?_
  intro p e s m args below meth c0 s₁ B hml hv
  obtain ⟨rfl, hP, hK, hD0⟩ := hv
  have hx := B.exec
  have hb := B.bytes
  have hr := B.returns
  have hts := atoms_spec (ws := wsX3_of) B.pre
  have hown : s.vm.findClass RX3 = some m.cls := findClass_of_methodNamed B.named
  have hlocks := B.notSynchronized
  have hinX1 : ∀ w ∈ wsX10, w ∈ wsX3_of := fun _ h => List.mem_cons_of_mem _ (List.mem_append_left _ (List.mem_append_right _ h))
  have hinX3 : ∀ w ∈ wsX30, w ∈ wsX3_of := fun _ h => List.mem_cons_of_mem _ (List.mem_append_right _ h)
  have lk_72 : (Cond.fieldLink RX3 72 "BallotHouse$Ballot" "state" "I").before _ s = true := hts _ (by decide +kernel)
  have lk_78 : (Cond.fieldLink RX3 78 "BallotHouse$Ballot" "proposed" "I").before _ s = true := hts _ (by decide +kernel)
  have lk_84 : (Cond.fieldLink RX3 84 "BallotHouse$Ballot" "members" "I").before _ s = true := hts _ (by decide +kernel)
  have lk_97 : (Cond.fieldLink RX3 97 "BallotHouse$Ballot" "readAnswers" "I").before _ s = true := hts _ (by decide +kernel)
  have lk_139 : (Cond.fieldLink RX3 139 "BallotHouse$Ballot" "\x72" "I").before _ s = true := hts _ (by decide +kernel)
  have lk_142 : (Cond.fieldLink RX3 142 "BallotHouse$Ballot" "w" "I").before _ s = true := hts _ (by decide +kernel)
  have lk_145 : (Cond.fieldLink RX3 145 "BallotHouse$Ballot" "behind" "I").before _ s = true := hts _ (by decide +kernel)
  have lk_148 : (Cond.fieldLink RX3 148 "BallotHouse$Ballot" "found" "I").before _ s = true := hts _ (by decide +kernel)
  have hI : bh_I D (bh_cw h ad ba c nv km (C)) (fun _ => True) s.heap s.heap [] := ⟨hP, hD0, va_S.rf⟩
  have hl := lv_entry ([.ref h, .int (x), .int (y)]) (n := 4) (Nat.le_of_ble_eq_true rfl)
  rw [lg_entry_eq]
  generalize (lg_sl ([.ref h, .int (x), .int (y)]) ++ List.replicate (4 - (lg_sl ([.ref h, .int (x), .int (y)])).length) Slot.unset).toArray = ls at hl ⊢
  have hl : lv_has ls 4 [(0, .ref h), (1, .int (x)), (2, .int (y))] := hl
  rcases hx1 : bh_ixb x km with _ | b
  · refine lv_aload_n hx hb dX3_of_0 rfl (lv_at hl 0 rfl) ?_
    refine lv_iload_n hx hb dX3_of_1 rfl (lv_at hl 1 rfl) ?_
    refine va_csq (bn_roV (As := [.int (x)]) (rest := []) ⟨hx, hb, hml, hown, hts⟩ (cc_findN l D c h ad ba nv km (C) x hx1 hk24) (cwV 1 hts gX3_of_X3_find rfl rfl rfl (by decide +kernel) ⟨Nat.le_of_ble_eq_true rfl, Nat.le_of_ble_eq_true rfl⟩) hK hI 0 2 rfl rfl rfl rfl hl.1 (Nat.le_of_ble_eq_true rfl) dX3_of_2 ⟨Nat.le_of_ble_eq_true rfl, Nat.le_of_ble_eq_true rfl⟩) (fun r_1 er_1 => ?_)
    subst er_1
    refine lv_astore_nN (lv' := [(3, .null), (0, .ref h), (1, .int (x)), (2, .int (y))]) hx hb dX3_of_5 rfl hl (by decide) rfl (fun ls hl => ?_)
    refine lv_aload_nN hx hb dX3_of_6 rfl (lv_at hl 0 rfl) ?_
    refine lv_ifnonnullN hx hb dX3_of_7 ?_
    refine lv_iconst (v := -1) hx hb dX3_of_10 (by decide) ?_
    exact bn_roti hx hb hr hlocks (by unfold bc_mof; rw [hx1]) dX3_of_11
  · obtain ⟨hb1, hb2, rfl⟩ := bh_ixb_some hx1
    refine lv_aload_n hx hb dX3_of_0 rfl (lv_at hl 0 rfl) ?_
    refine lv_iload_n hx hb dX3_of_1 rfl (lv_at hl 1 rfl) ?_
    refine va_csq (bn_roV (As := [.int (nI b)]) (rest := []) ⟨hx, hb, hml, hown, hts⟩ (cc_find l D c h ad ba nv km (C) b hb1 hb2 hk24) (cwV 1 hts gX3_of_X3_find rfl rfl rfl (by decide +kernel) ⟨Nat.le_of_ble_eq_true rfl, Nat.le_of_ble_eq_true rfl⟩) hK hI 0 2 rfl rfl rfl rfl hl.1 (Nat.le_of_ble_eq_true rfl) dX3_of_2 ⟨Nat.le_of_ble_eq_true rfl, Nat.le_of_ble_eq_true rfl⟩) (fun r_2 er_2 => ?_)
    subst er_2
    refine lv_astore_n (lv' := [(3, .ref (ba b 0)), (0, .ref h), (1, .int (nI b)), (2, .int (y))]) hx hb dX3_of_5 rfl hl (by decide) rfl (fun ls hl => ?_)
    refine lv_aload_n hx hb dX3_of_6 rfl (lv_at hl 0 rfl) ?_
    refine lv_ifnonnull (tgt := 12) hx hb dX3_of_7 (by decide) ?_
    rcases hx2 : bh_ix y 9 with _ | j
    · refine lv_iload_n hx hb dX3_of_12 rfl (lv_at hl 3 rfl) ?_
      refine lv_tableOut (tgt := 109) hx hb dX3_of_13 (by have := bh_ix_none hx2; omega) (by decide) ?_
      refine lv_iconst (v := -1) hx hb dX3_of_109 (by decide) ?_
      exact bn_roti hx hb hr hlocks (by unfold bc_mof; rw [hx1]; dsimp only; rw [hx2]) dX3_of_110
    · obtain ⟨hj, rfl⟩ := bh_ix_some hx2
      refine lv_iload_n hx hb dX3_of_12 rfl (lv_at hl 3 rfl) ?_
      rcases (show j = 0 ∨ j = 1 ∨ j = 2 ∨ j = 3 ∨ j = 4 ∨ j = 5 ∨ j = 6 ∨ j = 7 ∨ j = 8 by omega) with rfl | rfl | rfl | rfl | rfl | rfl | rfl | rfl | rfl
      · refine lv_tableIn (tgt := 64) hx hb dX3_of_13 (by decide) (by decide) rfl (by decide) ?_
        refine lv_aload_n hx hb dX3_of_64 rfl (lv_at hl 0 rfl) ?_
        refine bn_get (ci := 1) (v := .int (C.2.1 6 b)) (C := RX1) (T := TX1) (N := 14) hx hb hts hinX1 hown hK hI (10 + (5 * (b - 1) + 0)) ((bh_cw_b hb1 hb2 0 (by decide)).trans rfl) rfl 6 (by decide) lk_72 rfl (rfl) dX3_of_65 ?_
        exact bn_roti hx hb hr hlocks (by unfold bc_mof; rw [hx1]; dsimp only; rw [hx2]; rfl) dX3_of_68
      · refine lv_tableIn (tgt := 69) hx hb dX3_of_13 (by decide) (by decide) rfl (by decide) ?_
        refine lv_aload_n hx hb dX3_of_69 rfl (lv_at hl 0 rfl) ?_
        refine bn_get (ci := 1) (v := .int (C.2.1 1 b)) (C := RX1) (T := TX1) (N := 14) hx hb hts hinX1 hown hK hI (10 + (5 * (b - 1) + 0)) ((bh_cw_b hb1 hb2 0 (by decide)).trans rfl) rfl 1 (by decide) lk_84 rfl (rfl) dX3_of_70 ?_
        exact bn_roti hx hb hr hlocks (by unfold bc_mof; rw [hx1]; dsimp only; rw [hx2]; rfl) dX3_of_73
      · refine lv_tableIn (tgt := 74) hx hb dX3_of_13 (by decide) (by decide) rfl (by decide) ?_
        refine lv_aload_n hx hb dX3_of_74 rfl (lv_at hl 0 rfl) ?_
        refine bn_get (ci := 1) (v := .int (C.2.1 2 b)) (C := RX1) (T := TX1) (N := 14) hx hb hts hinX1 hown hK hI (10 + (5 * (b - 1) + 0)) ((bh_cw_b hb1 hb2 0 (by decide)).trans rfl) rfl 2 (by decide) lk_139 rfl (rfl) dX3_of_75 ?_
        exact bn_roti hx hb hr hlocks (by unfold bc_mof; rw [hx1]; dsimp only; rw [hx2]; rfl) dX3_of_78
      · refine lv_tableIn (tgt := 79) hx hb dX3_of_13 (by decide) (by decide) rfl (by decide) ?_
        refine lv_aload_n hx hb dX3_of_79 rfl (lv_at hl 0 rfl) ?_
        refine bn_get (ci := 1) (v := .int (C.2.1 3 b)) (C := RX1) (T := TX1) (N := 14) hx hb hts hinX1 hown hK hI (10 + (5 * (b - 1) + 0)) ((bh_cw_b hb1 hb2 0 (by decide)).trans rfl) rfl 3 (by decide) lk_142 rfl (rfl) dX3_of_80 ?_
        exact bn_roti hx hb hr hlocks (by unfold bc_mof; rw [hx1]; dsimp only; rw [hx2]; rfl) dX3_of_83
      · refine lv_tableIn (tgt := 84) hx hb dX3_of_13 (by decide) (by decide) rfl (by decide) ?_
        refine lv_aload_n hx hb dX3_of_84 rfl (lv_at hl 0 rfl) ?_
        refine bn_get (ci := 1) (v := .int (C.2.1 4 b)) (C := RX1) (T := TX1) (N := 14) hx hb hts hinX1 hown hK hI (10 + (5 * (b - 1) + 0)) ((bh_cw_b hb1 hb2 0 (by decide)).trans rfl) rfl 4 (by decide) lk_145 rfl (rfl) dX3_of_85 ?_
        exact bn_roti hx hb hr hlocks (by unfold bc_mof; rw [hx1]; dsimp only; rw [hx2]; rfl) dX3_of_88
      · refine lv_tableIn (tgt := 89) hx hb dX3_of_13 (by decide) (by decide) rfl (by decide) ?_
        refine lv_aload_n hx hb dX3_of_89 rfl (lv_at hl 0 rfl) ?_
        refine bn_get (ci := 1) (v := .int (C.2.1 7 b)) (C := RX1) (T := TX1) (N := 14) hx hb hts hinX1 hown hK hI (10 + (5 * (b - 1) + 0)) ((bh_cw_b hb1 hb2 0 (by decide)).trans rfl) rfl 7 (by decide) lk_97 rfl (rfl) dX3_of_90 ?_
        exact bn_roti hx hb hr hlocks (by unfold bc_mof; rw [hx1]; dsimp only; rw [hx2]; rfl) dX3_of_93
      · refine lv_tableIn (tgt := 94) hx hb dX3_of_13 (by decide) (by decide) rfl (by decide) ?_
        refine lv_aload_n hx hb dX3_of_94 rfl (lv_at hl 0 rfl) ?_
        refine bn_get (ci := 1) (v := .int (C.2.1 8 b)) (C := RX1) (T := TX1) (N := 14) hx hb hts hinX1 hown hK hI (10 + (5 * (b - 1) + 0)) ((bh_cw_b hb1 hb2 0 (by decide)).trans rfl) rfl 8 (by decide) lk_148 rfl (rfl) dX3_of_95 ?_
        exact bn_roti hx hb hr hlocks (by unfold bc_mof; rw [hx1]; dsimp only; rw [hx2]; rfl) dX3_of_98
      · refine lv_tableIn (tgt := 99) hx hb dX3_of_13 (by decide) (by decide) rfl (by decide) ?_
        refine lv_aload_n hx hb dX3_of_99 rfl (lv_at hl 0 rfl) ?_
        refine bn_get (ci := 1) (v := .int (C.2.1 9 b)) (C := RX1) (T := TX1) (N := 14) hx hb hts hinX1 hown hK hI (10 + (5 * (b - 1) + 0)) ((bh_cw_b hb1 hb2 0 (by decide)).trans rfl) rfl 9 (by decide) lk_78 rfl (rfl) dX3_of_100 ?_
        exact bn_roti hx hb hr hlocks (by unfold bc_mof; rw [hx1]; dsimp only; rw [hx2]; rfl) dX3_of_103
      · refine lv_tableIn (tgt := 104) hx hb dX3_of_13 (by decide) (by decide) rfl (by decide) ?_
        refine lv_aload_n hx hb dX3_of_104 rfl (lv_at hl 0 rfl) ?_
        refine vp_callSi (bn_roV (As := []) (rest := []) ⟨hx, hb, hml, hown, hts⟩ (cc_knownPlaces l D c h ad ba nv km C b hb1 hb2) (cwV 0 hts gX3_of_X1_knownPlaces rfl rfl rfl (by decide +kernel) ⟨Nat.le_of_ble_eq_true rfl, Nat.le_of_ble_eq_true rfl⟩) hK hI (10 + (5 * (b - 1) + 0)) 1 rfl rfl ((bh_cw_b hb1 hb2 0 (by decide)).trans rfl) rfl hl.1 (Nat.le_of_ble_eq_true rfl) dX3_of_105 ⟨Nat.le_of_ble_eq_true rfl, Nat.le_of_ble_eq_true rfl⟩) (fun r_3 er_3 => ?_)
        subst er_3
        exact bn_roti hx hb hr hlocks (by unfold bc_mof; rw [hx1]; dsimp only; rw [hx2]; rfl) dX3_of_108
set_option maxHeartbeats 4000000 in
set_option maxRecDepth 100000 in
theorem cc_about (l : Launch) (D : va_G) (c : bh_C) (h : Nat) (ad : Nat → Nat) (ba : Nat → Nat → Nat) (nv km : Nat) (C : cS) (x : Int32) : Met l yX3_about wsX3_about ({ frames := 0, cells := 0, slots := 0, locals := 0 }) (va_Pc [.ref h, .int (x)] (bh_pre D c (bh_cw h ad ba c nv km (C)))) (vp_Si (fun r => r = bc_mabo C nv km x)) 0 0 (fun _ => False) := by
  refine Met.ofW (cc := cX3_about) (maxL := 2) (ret := (some .int)) (by decide) rfl ?_
  intro p e s m args below meth c0 s₁ B hml hv
  obtain ⟨rfl, hP, hK, hD0⟩ := hv
  have hx := B.exec
  have hb := B.bytes
  have hr := B.returns
  have hts := atoms_spec (ws := wsX3_about) B.pre
  have hown : s.vm.findClass RX3 = some m.cls := findClass_of_methodNamed B.named
  have hlocks := B.notSynchronized
  have hinX3 : ∀ w ∈ wsX30, w ∈ wsX3_about := fun _ h => List.mem_cons_of_mem _ (List.mem_append_left _ (List.mem_append_right _ h))
  have hinX0 : ∀ w ∈ wsX00, w ∈ wsX3_about := fun _ h => List.mem_cons_of_mem _ (List.mem_append_right _ h)
  have lk_18 : (Cond.fieldLink RX3 18 "BallotHouse" "voters" "I").before _ s = true := hts _ (by decide +kernel)
  have lk_39 : (Cond.fieldLink RX3 39 "BallotHouse" "letters" "LBallotHouse$Air;").before _ s = true := hts _ (by decide +kernel)
  have lk_43 : (Cond.fieldLink RX3 43 "BallotHouse" "made" "I").before _ s = true := hts _ (by decide +kernel)
  have lk_50 : (Cond.fieldLink RX3 50 "BallotHouse" "complete" "I").before _ s = true := hts _ (by decide +kernel)
  have lk_121 : (Cond.fieldLink RX3 121 "BallotHouse$Air" "size" "I").before _ s = true := hts _ (by decide +kernel)
  have lk_180 : (Cond.fieldLink RX3 180 "BallotHouse$Air" "lost" "I").before _ s = true := hts _ (by decide +kernel)
  have hI : bh_I D (bh_cw h ad ba c nv km (C)) (fun _ => True) s.heap s.heap [] := ⟨hP, hD0, va_S.rf⟩
  have hl := lv_entry ([.ref h, .int (x)]) (n := 2) (Nat.le_of_ble_eq_true rfl)
  rw [lg_entry_eq]
  generalize (lg_sl ([.ref h, .int (x)]) ++ List.replicate (2 - (lg_sl ([.ref h, .int (x)])).length) Slot.unset).toArray = ls at hl ⊢
  have hl : lv_has ls 2 [(0, .ref h), (1, .int (x))] := hl
  rcases hx1 : bh_ix x 5 with _ | j
  · refine lv_iload_n hx hb dX3_about_0 rfl (lv_at hl 1 rfl) ?_
    refine lv_tableOut (tgt := 67) hx hb dX3_about_1 (by have := bh_ix_none hx1; omega) (by decide) ?_
    refine lv_iconst (v := -1) hx hb dX3_about_67 (by decide) ?_
    exact bn_roti hx hb hr hlocks (by unfold bc_mabo; rw [hx1]) dX3_about_68
  · obtain ⟨hj, rfl⟩ := bh_ix_some hx1
    refine lv_iload_n hx hb dX3_about_0 rfl (lv_at hl 1 rfl) ?_
    rcases (show j = 0 ∨ j = 1 ∨ j = 2 ∨ j = 3 ∨ j = 4 by omega) with rfl | rfl | rfl | rfl | rfl
    · refine lv_tableIn (tgt := 36) hx hb dX3_about_1 (by decide) (by decide) rfl (by decide) ?_
      refine lv_aload_n hx hb dX3_about_36 rfl (lv_at hl 0 rfl) ?_
      refine bn_get (ci := 2) (v := .int (nI nv)) (C := RX3) (T := TX3) (N := 8) hx hb hts hinX3 hown hK hI 0 rfl rfl 0 (by decide) lk_18 rfl (rfl) dX3_about_37 ?_
      exact bn_roti hx hb hr hlocks (by unfold bc_mabo; rw [hx1]; rfl) dX3_about_40
    · refine lv_tableIn (tgt := 41) hx hb dX3_about_1 (by decide) (by decide) rfl (by decide) ?_
      refine lv_aload_n hx hb dX3_about_41 rfl (lv_at hl 0 rfl) ?_
      refine bn_get (ci := 2) (v := .int (nI km)) (C := RX3) (T := TX3) (N := 8) hx hb hts hinX3 hown hK hI 0 rfl rfl 5 (by decide) lk_43 rfl (rfl) dX3_about_42 ?_
      exact bn_roti hx hb hr hlocks (by unfold bc_mabo; rw [hx1]; rfl) dX3_about_45
    · refine lv_tableIn (tgt := 46) hx hb dX3_about_1 (by decide) (by decide) rfl (by decide) ?_
      refine lv_aload_n hx hb dX3_about_46 rfl (lv_at hl 0 rfl) ?_
      refine bn_get (ci := 2) (v := .int (C.1.2.1 6)) (C := RX3) (T := TX3) (N := 8) hx hb hts hinX3 hown hK hI 0 rfl rfl 6 (by decide) lk_50 rfl (rfl) dX3_about_47 ?_
      exact bn_roti hx hb hr hlocks (by unfold bc_mabo; rw [hx1]; rfl) dX3_about_50
    · refine lv_tableIn (tgt := 51) hx hb dX3_about_1 (by decide) (by decide) rfl (by decide) ?_
      refine lv_aload_n hx hb dX3_about_51 rfl (lv_at hl 0 rfl) ?_
      refine bn_get (ci := 2) (v := .ref (ad 7)) (C := RX3) (T := TX3) (N := 8) hx hb hts hinX3 hown hK hI 0 rfl rfl 7 (by decide) lk_39 rfl (rfl) dX3_about_52 ?_
      refine bn_get (ci := 0) (v := .int (nI (C.1.1 15))) (C := RX0) (T := TX0) (N := 7) hx hb hts hinX0 hown hK hI 4 rfl rfl 5 (by decide) lk_121 rfl (rfl) dX3_about_55 ?_
      exact bn_roti hx hb hr hlocks (by unfold bc_mabo; rw [hx1]; rfl) dX3_about_58
    · refine lv_tableIn (tgt := 59) hx hb dX3_about_1 (by decide) (by decide) rfl (by decide) ?_
      refine lv_aload_n hx hb dX3_about_59 rfl (lv_at hl 0 rfl) ?_
      refine bn_get (ci := 2) (v := .ref (ad 7)) (C := RX3) (T := TX3) (N := 8) hx hb hts hinX3 hown hK hI 0 rfl rfl 7 (by decide) lk_39 rfl (rfl) dX3_about_60 ?_
      refine bn_get (ci := 0) (v := .int (C.1.2.1 16)) (C := RX0) (T := TX0) (N := 7) hx hb hts hinX0 hown hK hI 4 rfl rfl 6 (by decide) lk_180 rfl (rfl) dX3_about_63 ?_
      exact bn_roti hx hb hr hlocks (by unfold bc_mabo; rw [hx1]; rfl) dX3_about_66
set_option maxHeartbeats 4000000 in
set_option maxRecDepth 100000 in
theorem cc_air (l : Launch) (D : va_G) (c : bh_C) (h : Nat) (ad : Nat → Nat) (ba : Nat → Nat → Nat) (nv km : Nat) (C : cS) (x y : Int32) (ha : C.1.1 15 ≤ 400) : Met l yX3_air wsX3_air ({ frames := 2, cells := 0, slots := 0, locals := 45 }) (va_Pc [.ref h, .int (x), .int (y)] (bh_pre D c (bh_cw h ad ba c nv km (C)))) (vp_Si (fun r => r = bc_mair C x y)) 0 0 (fun _ => False) := by
  refine Met.ofW (cc := cX3_air) (maxL := 3) (ret := (some .int)) (by decide) rfl ?_
  intro p e s m args below meth c0 s₁ B hml hv
  obtain ⟨rfl, hP, hK, hD0⟩ := hv
  have hx := B.exec
  have hb := B.bytes
  have hr := B.returns
  have hts := atoms_spec (ws := wsX3_air) B.pre
  have hown : s.vm.findClass RX3 = some m.cls := findClass_of_methodNamed B.named
  have hlocks := B.notSynchronized
  have hinX3 : ∀ w ∈ wsX30, w ∈ wsX3_air := fun _ h => List.mem_cons_of_mem _ (List.mem_append_left _ (List.mem_append_right _ h))
  have hinX0 : ∀ w ∈ wsX00, w ∈ wsX3_air := fun _ h => List.mem_cons_of_mem _ (List.mem_append_right _ h)
  have lk_39 : (Cond.fieldLink RX3 39 "BallotHouse" "letters" "LBallotHouse$Air;").before _ s = true := hts _ (by decide +kernel)
  have lk_163 : (Cond.fieldLink RX3 163 "BallotHouse$Air" "kind" "[I").before _ s = true := hts _ (by decide +kernel)
  have lk_166 : (Cond.fieldLink RX3 166 "BallotHouse$Air" "ballot" "[I").before _ s = true := hts _ (by decide +kernel)
  have lk_169 : (Cond.fieldLink RX3 169 "BallotHouse$Air" "voter" "[I").before _ s = true := hts _ (by decide +kernel)
  have lk_172 : (Cond.fieldLink RX3 172 "BallotHouse$Air" "place" "[I").before _ s = true := hts _ (by decide +kernel)
  have lk_175 : (Cond.fieldLink RX3 175 "BallotHouse$Air" "votes" "[J").before _ s = true := hts _ (by decide +kernel)
  have hI : bh_I D (bh_cw h ad ba c nv km (C)) (fun _ => True) s.heap s.heap [] := ⟨hP, hD0, va_S.rf⟩
  have hl := lv_entry ([.ref h, .int (x), .int (y)]) (n := 3) (Nat.le_of_ble_eq_true rfl)
  rw [lg_entry_eq]
  generalize (lg_sl ([.ref h, .int (x), .int (y)]) ++ List.replicate (3 - (lg_sl ([.ref h, .int (x), .int (y)])).length) Slot.unset).toArray = ls at hl ⊢
  have hl : lv_has ls 3 [(0, .ref h), (1, .int (x)), (2, .int (y))] := hl
  rcases hx1 : bh_ix x (C.1.1 15) with _ | k
  · refine lv_aload_n hx hb dX3_air_0 rfl (lv_at hl 0 rfl) ?_
    refine bn_get (ci := 2) (v := .ref (ad 7)) (C := RX3) (T := TX3) (N := 8) hx hb hts hinX3 hown hK hI 0 rfl rfl 7 (by decide) lk_39 rfl (rfl) dX3_air_1 ?_
    refine lv_iload_n hx hb dX3_air_4 rfl (lv_at hl 1 rfl) ?_
    refine vp_callSi (bn_roV (As := [.int (x)]) (rest := []) ⟨hx, hb, hml, hown, hts⟩ (cc_has l D c h ad ba nv km (C) (x) ha) (cwV 1 hts gX3_air_X0_has rfl rfl rfl (by decide +kernel) ⟨Nat.le_of_ble_eq_true rfl, Nat.le_of_ble_eq_true rfl⟩) hK hI 4 0 rfl rfl rfl rfl hl.1 (Nat.le_of_ble_eq_true rfl) dX3_air_5 ⟨Nat.le_of_ble_eq_true rfl, Nat.le_of_ble_eq_true rfl⟩) (fun r_1 er_1 => ?_)
    obtain rfl : r_1 = nI 0 := by rw [er_1, hx1]; rfl
    refine lv_if_ne (tgt := 13) hx hb dX3_air_8 (by decide) (fun c_2 => ?_) (fun c_2 => ?_)
    · first | exact absurd c_2 (by decide) | exact absurd (by decide) c_2
    · refine lv_iconst (v := -1) hx hb dX3_air_11 (by decide) ?_
      exact bn_roti hx hb hr hlocks (by unfold bc_mair; rw [hx1]) dX3_air_12
  · obtain ⟨hk, rfl⟩ := bh_ix_some hx1
    refine lv_aload_n hx hb dX3_air_0 rfl (lv_at hl 0 rfl) ?_
    refine bn_get (ci := 2) (v := .ref (ad 7)) (C := RX3) (T := TX3) (N := 8) hx hb hts hinX3 hown hK hI 0 rfl rfl 7 (by decide) lk_39 rfl (rfl) dX3_air_1 ?_
    refine lv_iload_n hx hb dX3_air_4 rfl (lv_at hl 1 rfl) ?_
    refine vp_callSi (bn_roV (As := [.int (nI k)]) (rest := []) ⟨hx, hb, hml, hown, hts⟩ (cc_has l D c h ad ba nv km (C) (nI k) ha) (cwV 1 hts gX3_air_X0_has rfl rfl rfl (by decide +kernel) ⟨Nat.le_of_ble_eq_true rfl, Nat.le_of_ble_eq_true rfl⟩) hK hI 4 0 rfl rfl rfl rfl hl.1 (Nat.le_of_ble_eq_true rfl) dX3_air_5 ⟨Nat.le_of_ble_eq_true rfl, Nat.le_of_ble_eq_true rfl⟩) (fun r_3 er_3 => ?_)
    obtain rfl : r_3 = nI 1 := by rw [er_3, hx1]; rfl
    refine lv_if_ne (tgt := 13) hx hb dX3_air_8 (by decide) (fun c_4 => ?_) (fun c_4 => ?_)
    · rcases hx2 : bh_ix y 5 with _ | j
      · refine lv_iload_n hx hb dX3_air_13 rfl (lv_at hl 2 rfl) ?_
        refine lv_tableOut (tgt := 101) hx hb dX3_air_14 (by have := bh_ix_none hx2; omega) (by decide) ?_
        refine lv_iconst (v := -1) hx hb dX3_air_101 (by decide) ?_
        exact bn_roti hx hb hr hlocks (by unfold bc_mair; rw [hx1]; dsimp only; rw [hx2]) dX3_air_102
      · obtain ⟨hj, rfl⟩ := bh_ix_some hx2
        refine lv_iload_n hx hb dX3_air_13 rfl (lv_at hl 2 rfl) ?_
        rcases (show j = 0 ∨ j = 1 ∨ j = 2 ∨ j = 3 ∨ j = 4 by omega) with rfl | rfl | rfl | rfl | rfl
        · refine lv_tableIn (tgt := 48) hx hb dX3_air_14 (by decide) (by decide) rfl (by decide) ?_
          refine lv_aload_n hx hb dX3_air_48 rfl (lv_at hl 0 rfl) ?_
          refine bn_get (ci := 2) (v := .ref (ad 7)) (C := RX3) (T := TX3) (N := 8) hx hb hts hinX3 hown hK hI 0 rfl rfl 7 (by decide) lk_39 rfl (rfl) dX3_air_49 ?_
          refine bn_get (ci := 0) (v := .ref (ad 10)) (C := RX0) (T := TX0) (N := 7) hx hb hts hinX0 hown hK hI 4 rfl rfl 0 (by decide) lk_163 rfl (rfl) dX3_air_52 ?_
          refine lv_iload_n hx hb dX3_air_55 rfl (lv_at hl 1 rfl) ?_
          refine bn_iald (n := 400) (v := C.1.2.2.1 10 k) hx hb hK hI 5 0 rfl rfl (by omega) (by first | decide | omega) (rfl) dX3_air_56 ?_
          exact bn_roti hx hb hr hlocks (by unfold bc_mair; rw [hx1]; dsimp only; rw [hx2]; rfl) dX3_air_57
        · refine lv_tableIn (tgt := 58) hx hb dX3_air_14 (by decide) (by decide) rfl (by decide) ?_
          refine lv_aload_n hx hb dX3_air_58 rfl (lv_at hl 0 rfl) ?_
          refine bn_get (ci := 2) (v := .ref (ad 7)) (C := RX3) (T := TX3) (N := 8) hx hb hts hinX3 hown hK hI 0 rfl rfl 7 (by decide) lk_39 rfl (rfl) dX3_air_59 ?_
          refine bn_get (ci := 0) (v := .ref (ad 11)) (C := RX0) (T := TX0) (N := 7) hx hb hts hinX0 hown hK hI 4 rfl rfl 1 (by decide) lk_166 rfl (rfl) dX3_air_62 ?_
          refine lv_iload_n hx hb dX3_air_65 rfl (lv_at hl 1 rfl) ?_
          refine bn_iald (n := 400) (v := C.1.2.2.1 11 k) hx hb hK hI 6 0 rfl rfl (by omega) (by first | decide | omega) (rfl) dX3_air_66 ?_
          exact bn_roti hx hb hr hlocks (by unfold bc_mair; rw [hx1]; dsimp only; rw [hx2]; rfl) dX3_air_67
        · refine lv_tableIn (tgt := 68) hx hb dX3_air_14 (by decide) (by decide) rfl (by decide) ?_
          refine lv_aload_n hx hb dX3_air_68 rfl (lv_at hl 0 rfl) ?_
          refine bn_get (ci := 2) (v := .ref (ad 7)) (C := RX3) (T := TX3) (N := 8) hx hb hts hinX3 hown hK hI 0 rfl rfl 7 (by decide) lk_39 rfl (rfl) dX3_air_69 ?_
          refine bn_get (ci := 0) (v := .ref (ad 12)) (C := RX0) (T := TX0) (N := 7) hx hb hts hinX0 hown hK hI 4 rfl rfl 2 (by decide) lk_169 rfl (rfl) dX3_air_72 ?_
          refine lv_iload_n hx hb dX3_air_75 rfl (lv_at hl 1 rfl) ?_
          refine bn_iald (n := 400) (v := C.1.2.2.1 12 k) hx hb hK hI 7 0 rfl rfl (by omega) (by first | decide | omega) (rfl) dX3_air_76 ?_
          exact bn_roti hx hb hr hlocks (by unfold bc_mair; rw [hx1]; dsimp only; rw [hx2]; rfl) dX3_air_77
        · refine lv_tableIn (tgt := 78) hx hb dX3_air_14 (by decide) (by decide) rfl (by decide) ?_
          refine lv_aload_n hx hb dX3_air_78 rfl (lv_at hl 0 rfl) ?_
          refine bn_get (ci := 2) (v := .ref (ad 7)) (C := RX3) (T := TX3) (N := 8) hx hb hts hinX3 hown hK hI 0 rfl rfl 7 (by decide) lk_39 rfl (rfl) dX3_air_79 ?_
          refine bn_get (ci := 0) (v := .ref (ad 13)) (C := RX0) (T := TX0) (N := 7) hx hb hts hinX0 hown hK hI 4 rfl rfl 3 (by decide) lk_172 rfl (rfl) dX3_air_82 ?_
          refine lv_iload_n hx hb dX3_air_85 rfl (lv_at hl 1 rfl) ?_
          refine bn_iald (n := 400) (v := C.1.2.2.1 13 k) hx hb hK hI 8 0 rfl rfl (by omega) (by first | decide | omega) (rfl) dX3_air_86 ?_
          exact bn_roti hx hb hr hlocks (by unfold bc_mair; rw [hx1]; dsimp only; rw [hx2]; rfl) dX3_air_87
        · refine lv_tableIn (tgt := 88) hx hb dX3_air_14 (by decide) (by decide) rfl (by decide) ?_
          refine lv_aload_n hx hb dX3_air_88 rfl (lv_at hl 0 rfl) ?_
          refine bn_get (ci := 2) (v := .ref (ad 7)) (C := RX3) (T := TX3) (N := 8) hx hb hts hinX3 hown hK hI 0 rfl rfl 7 (by decide) lk_39 rfl (rfl) dX3_air_89 ?_
          refine bn_get (ci := 0) (v := .ref (ad 14)) (C := RX0) (T := TX0) (N := 7) hx hb hts hinX0 hown hK hI 4 rfl rfl 4 (by decide) lk_175 rfl (rfl) dX3_air_92 ?_
          refine lv_iload_n hx hb dX3_air_95 rfl (lv_at hl 1 rfl) ?_
          refine bn_lald (n := 400) (v := C.1.2.2.2 14 k) hx hb hK hI 9 1 rfl rfl (by omega) (by first | decide | omega) (rfl) dX3_air_96 ?_
          refine vp_callSi (bn_roS (As := [.long (C.1.2.2.2 14 k)]) (rest := []) ⟨hx, hb, hml, hown, hts⟩ (cc_places l (C.1.2.2.2 14 k)) (va_cwS 1 hts gX3_air_X2_places rfl rfl rfl (by decide +kernel) ⟨Nat.le_of_ble_eq_true rfl, Nat.le_of_ble_eq_true rfl⟩) rfl hl.1 (Nat.le_of_ble_eq_true rfl) dX3_air_97 ⟨Nat.le_of_ble_eq_true rfl, Nat.le_of_ble_eq_true rfl⟩) (fun r_5 er_5 => ?_)
          subst er_5
          exact bn_roti hx hb hr hlocks (by unfold bc_mair; rw [hx1]; dsimp only; rw [hx2]; rfl) dX3_air_100
    · first | exact absurd c_4 (by decide) | exact absurd (by decide) c_4
set_option maxHeartbeats 4000000 in
set_option maxRecDepth 100000 in
theorem cc_chosen (l : Launch) (D : va_G) (c : bh_C) (h : Nat) (ad : Nat → Nat) (ba : Nat → Nat → Nat) (nv km : Nat) (C : cS) (x : Int32) (hk24 : km ≤ 24) : Met l yX3_chosen wsX3_chosen ({ frames := 3, cells := 0, slots := 0, locals := 64 }) (va_Pc [.ref h, .int (x)] (bh_pre D c (bh_cw h ad ba c nv km (C)))) (vp_Si (fun r => r = bc_mcho C km x)) 0 0 (fun _ => False) := by
  refine Met.ofW (cc := cX3_chosen) (maxL := 3) (ret := (some .int)) (by decide) rfl ?_
  intro p e s m args below meth c0 s₁ B hml hv
  obtain ⟨rfl, hP, hK, hD0⟩ := hv
  have hx := B.exec
  have hb := B.bytes
  have hr := B.returns
  have hts := atoms_spec (ws := wsX3_chosen) B.pre
  have hown : s.vm.findClass RX3 = some m.cls := findClass_of_methodNamed B.named
  have hlocks := B.notSynchronized
  have hinX1 : ∀ w ∈ wsX10, w ∈ wsX3_chosen := fun _ h => List.mem_cons_of_mem _ (List.mem_append_left _ (List.mem_append_right _ h))
  have hinX3 : ∀ w ∈ wsX30, w ∈ wsX3_chosen := fun _ h => List.mem_cons_of_mem _ (List.mem_append_right _ h)
  have lk_91 : (Cond.fieldLink RX3 91 "BallotHouse$Ballot" "number" "I").before _ s = true := hts _ (by decide +kernel)
  have hI : bh_I D (bh_cw h ad ba c nv km (C)) (fun _ => True) s.heap s.heap [] := ⟨hP, hD0, va_S.rf⟩
  have hl := lv_entry ([.ref h, .int (x)]) (n := 3) (Nat.le_of_ble_eq_true rfl)
  rw [lg_entry_eq]
  generalize (lg_sl ([.ref h, .int (x)]) ++ List.replicate (3 - (lg_sl ([.ref h, .int (x)])).length) Slot.unset).toArray = ls at hl ⊢
  have hl : lv_has ls 3 [(0, .ref h), (1, .int (x))] := hl
  rcases hx1 : bh_ix x 8 with _ | q
  · refine lv_aload_n hx hb dX3_chosen_0 rfl (lv_at hl 0 rfl) ?_
    refine lv_iload_n hx hb dX3_chosen_1 rfl (lv_at hl 1 rfl) ?_
    refine va_csq (bn_roV (As := [.int (x)]) (rest := []) ⟨hx, hb, hml, hown, hts⟩ (cc_firstThatChose l D c h ad ba nv km C (x) hk24) (cwV 1 hts gX3_chosen_X3_firstThatChose rfl rfl rfl (by decide +kernel) ⟨Nat.le_of_ble_eq_true rfl, Nat.le_of_ble_eq_true rfl⟩) hK hI 0 2 rfl rfl rfl rfl hl.1 (Nat.le_of_ble_eq_true rfl) dX3_chosen_2 ⟨Nat.le_of_ble_eq_true rfl, Nat.le_of_ble_eq_true rfl⟩) (fun r_1 er_1 => ?_)
    obtain rfl : r_1 = none := by rw [er_1]; unfold bc_ftc; rw [hx1]
    refine lv_astore_nN (lv' := [(2, .null), (0, .ref h), (1, .int (x))]) hx hb dX3_chosen_5 rfl hl (by decide) rfl (fun ls hl => ?_)
    refine lv_aload_nN hx hb dX3_chosen_6 rfl (lv_at hl 0 rfl) ?_
    refine lv_ifnonnullN hx hb dX3_chosen_7 ?_
    refine lv_iconst (v := -1) hx hb dX3_chosen_10 (by decide) ?_
    refine lv_goto (tgt := 18) hx hb dX3_chosen_11 (by decide) ?_
    exact bn_roti hx hb hr hlocks (by unfold bc_mcho; rw [hx1]) dX3_chosen_18
  · obtain ⟨hq, rfl⟩ := bh_ix_some hx1
    refine lv_aload_n hx hb dX3_chosen_0 rfl (lv_at hl 0 rfl) ?_
    rcases hch : bc_ch C km q with _ | b
    · refine lv_iload_n hx hb dX3_chosen_1 rfl (lv_at hl 1 rfl) ?_
      refine va_csq (bn_roV (As := [.int (nI q)]) (rest := []) ⟨hx, hb, hml, hown, hts⟩ (cc_firstThatChose l D c h ad ba nv km C (nI q) hk24) (cwV 1 hts gX3_chosen_X3_firstThatChose rfl rfl rfl (by decide +kernel) ⟨Nat.le_of_ble_eq_true rfl, Nat.le_of_ble_eq_true rfl⟩) hK hI 0 2 rfl rfl rfl rfl hl.1 (Nat.le_of_ble_eq_true rfl) dX3_chosen_2 ⟨Nat.le_of_ble_eq_true rfl, Nat.le_of_ble_eq_true rfl⟩) (fun r_2 er_2 => ?_)
      obtain rfl : r_2 = none := by rw [er_2]; unfold bc_ftc; rw [hx1]; show (bc_ch C km q).map _ = _; rw [hch]; rfl
      refine lv_astore_nN (lv' := [(2, .null), (0, .ref h), (1, .int (nI q))]) hx hb dX3_chosen_5 rfl hl (by decide) rfl (fun ls hl => ?_)
      refine lv_aload_nN hx hb dX3_chosen_6 rfl (lv_at hl 0 rfl) ?_
      refine lv_ifnonnullN hx hb dX3_chosen_7 ?_
      refine lv_iconst (v := -1) hx hb dX3_chosen_10 (by decide) ?_
      refine lv_goto (tgt := 18) hx hb dX3_chosen_11 (by decide) ?_
      exact bn_roti hx hb hr hlocks (by unfold bc_mcho; rw [hx1]; show _ = bh_oi (bc_ch C km q); rw [hch]; rfl) dX3_chosen_18
    · have hbb := bc_chL_in C q _ _ hch
      have hb1 : 1 ≤ b := hbb.1
      have hb2 : b ≤ km := by omega
      refine lv_iload_n hx hb dX3_chosen_1 rfl (lv_at hl 1 rfl) ?_
      refine va_csq (bn_roV (As := [.int (nI q)]) (rest := []) ⟨hx, hb, hml, hown, hts⟩ (cc_firstThatChose l D c h ad ba nv km C (nI q) hk24) (cwV 1 hts gX3_chosen_X3_firstThatChose rfl rfl rfl (by decide +kernel) ⟨Nat.le_of_ble_eq_true rfl, Nat.le_of_ble_eq_true rfl⟩) hK hI 0 2 rfl rfl rfl rfl hl.1 (Nat.le_of_ble_eq_true rfl) dX3_chosen_2 ⟨Nat.le_of_ble_eq_true rfl, Nat.le_of_ble_eq_true rfl⟩) (fun r_3 er_3 => ?_)
      obtain rfl : r_3 = some (ba b 0) := by rw [er_3]; unfold bc_ftc; rw [hx1]; show (bc_ch C km q).map _ = _; rw [hch]; rfl
      refine lv_astore_n (lv' := [(2, .ref (ba b 0)), (0, .ref h), (1, .int (nI q))]) hx hb dX3_chosen_5 rfl hl (by decide) rfl (fun ls hl => ?_)
      refine lv_aload_n hx hb dX3_chosen_6 rfl (lv_at hl 0 rfl) ?_
      refine lv_ifnonnull (tgt := 14) hx hb dX3_chosen_7 (by decide) ?_
      refine lv_aload_n hx hb dX3_chosen_14 rfl (lv_at hl 0 rfl) ?_
      refine bn_get (ci := 1) (v := .int (nI b)) (C := RX1) (T := TX1) (N := 14) hx hb hts hinX1 hown hK hI (10 + (5 * (b - 1) + 0)) ((bh_cw_b hb1 hb2 0 (by decide)).trans rfl) rfl 0 (by decide) lk_91 rfl (rfl) dX3_chosen_15 ?_
      exact bn_roti hx hb hr hlocks (by unfold bc_mcho; rw [hx1]; show _ = bh_oi (bc_ch C km q); rw [hch]; rfl) dX3_chosen_18
set_option maxHeartbeats 4000000 in
set_option maxRecDepth 100000 in
theorem cc_chosenValue (l : Launch) (D : va_G) (c : bh_C) (h : Nat) (ad : Nat → Nat) (ba : Nat → Nat → Nat) (nv km : Nat) (C : cS) (x : Int32) (hk24 : km ≤ 24) : Met l yX3_chosenValue wsX3_chosenValue ({ frames := 3, cells := 0, slots := 0, locals := 64 }) (va_Pc [.ref h, .int (x)] (bh_pre D c (bh_cw h ad ba c nv km (C)))) (vp_Sl (fun r => r = bc_mchv C km x)) 0 0 (fun _ => False) := by
  refine Met.ofW (cc := cX3_chosenValue) (maxL := 3) (ret := (some .long)) (by decide) rfl ?_
  intro p e s m args below meth c0 s₁ B hml hv
  obtain ⟨rfl, hP, hK, hD0⟩ := hv
  have hx := B.exec
  have hb := B.bytes
  have hr := B.returns
  have hts := atoms_spec (ws := wsX3_chosenValue) B.pre
  have hown : s.vm.findClass RX3 = some m.cls := findClass_of_methodNamed B.named
  have hlocks := B.notSynchronized
  have hinX1 : ∀ w ∈ wsX10, w ∈ wsX3_chosenValue := fun _ h => List.mem_cons_of_mem _ (List.mem_append_left _ (List.mem_append_right _ h))
  have hinX3 : ∀ w ∈ wsX30, w ∈ wsX3_chosenValue := fun _ h => List.mem_cons_of_mem _ (List.mem_append_right _ h)
  have lk_81 : (Cond.fieldLink RX3 81 "BallotHouse$Ballot" "words" "[J").before _ s = true := hts _ (by decide +kernel)
  have hI : bh_I D (bh_cw h ad ba c nv km (C)) (fun _ => True) s.heap s.heap [] := ⟨hP, hD0, va_S.rf⟩
  have hl := lv_entry ([.ref h, .int (x)]) (n := 3) (Nat.le_of_ble_eq_true rfl)
  rw [lg_entry_eq]
  generalize (lg_sl ([.ref h, .int (x)]) ++ List.replicate (3 - (lg_sl ([.ref h, .int (x)])).length) Slot.unset).toArray = ls at hl ⊢
  have hl : lv_has ls 3 [(0, .ref h), (1, .int (x))] := hl
  rcases hx1 : bh_ix x 8 with _ | q
  · refine lv_aload_n hx hb dX3_chosenValue_0 rfl (lv_at hl 0 rfl) ?_
    refine lv_iload_n hx hb dX3_chosenValue_1 rfl (lv_at hl 1 rfl) ?_
    refine va_csq (bn_roV (As := [.int (x)]) (rest := []) ⟨hx, hb, hml, hown, hts⟩ (cc_firstThatChose l D c h ad ba nv km C (x) hk24) (cwV 1 hts gX3_chosenValue_X3_firstThatChose rfl rfl rfl (by decide +kernel) ⟨Nat.le_of_ble_eq_true rfl, Nat.le_of_ble_eq_true rfl⟩) hK hI 0 2 rfl rfl rfl rfl hl.1 (Nat.le_of_ble_eq_true rfl) dX3_chosenValue_2 ⟨Nat.le_of_ble_eq_true rfl, Nat.le_of_ble_eq_true rfl⟩) (fun r_1 er_1 => ?_)
    obtain rfl : r_1 = none := by rw [er_1]; unfold bc_ftc; rw [hx1]
    refine lv_astore_nN (lv' := [(2, .null), (0, .ref h), (1, .int (x))]) hx hb dX3_chosenValue_5 rfl hl (by decide) rfl (fun ls hl => ?_)
    refine lv_aload_nN hx hb dX3_chosenValue_6 rfl (lv_at hl 0 rfl) ?_
    refine lv_ifnullN (tgt := 17) hx hb dX3_chosenValue_7 (by decide) ?_
    refine lv_lconst (v := 0) hx hb dX3_chosenValue_17 (by decide) ?_
    refine lv_goto (tgt := 27) hx hb dX3_chosenValue_18 (by decide) ?_
    exact bn_rotl hx hb hr hlocks (by unfold bc_mchv; rw [hx1]) dX3_chosenValue_27
  · obtain ⟨hq, rfl⟩ := bh_ix_some hx1
    refine lv_aload_n hx hb dX3_chosenValue_0 rfl (lv_at hl 0 rfl) ?_
    rcases hch : bc_ch C km q with _ | b
    · refine lv_iload_n hx hb dX3_chosenValue_1 rfl (lv_at hl 1 rfl) ?_
      refine va_csq (bn_roV (As := [.int (nI q)]) (rest := []) ⟨hx, hb, hml, hown, hts⟩ (cc_firstThatChose l D c h ad ba nv km C (nI q) hk24) (cwV 1 hts gX3_chosenValue_X3_firstThatChose rfl rfl rfl (by decide +kernel) ⟨Nat.le_of_ble_eq_true rfl, Nat.le_of_ble_eq_true rfl⟩) hK hI 0 2 rfl rfl rfl rfl hl.1 (Nat.le_of_ble_eq_true rfl) dX3_chosenValue_2 ⟨Nat.le_of_ble_eq_true rfl, Nat.le_of_ble_eq_true rfl⟩) (fun r_2 er_2 => ?_)
      obtain rfl : r_2 = none := by rw [er_2]; unfold bc_ftc; rw [hx1]; show (bc_ch C km q).map _ = _; rw [hch]; rfl
      refine lv_astore_nN (lv' := [(2, .null), (0, .ref h), (1, .int (nI q))]) hx hb dX3_chosenValue_5 rfl hl (by decide) rfl (fun ls hl => ?_)
      refine lv_aload_nN hx hb dX3_chosenValue_6 rfl (lv_at hl 0 rfl) ?_
      refine lv_ifnullN (tgt := 17) hx hb dX3_chosenValue_7 (by decide) ?_
      refine lv_lconst (v := 0) hx hb dX3_chosenValue_17 (by decide) ?_
      refine lv_goto (tgt := 27) hx hb dX3_chosenValue_18 (by decide) ?_
      exact bn_rotl hx hb hr hlocks (by unfold bc_mchv; rw [hx1]; show _ = bc_chv C km q; unfold bc_chv; rw [hch]) dX3_chosenValue_27
    · have hbb := bc_chL_in C q _ _ hch
      have hb1 : 1 ≤ b := hbb.1
      have hb2 : b ≤ km := by omega
      refine lv_iload_n hx hb dX3_chosenValue_1 rfl (lv_at hl 1 rfl) ?_
      refine va_csq (bn_roV (As := [.int (nI q)]) (rest := []) ⟨hx, hb, hml, hown, hts⟩ (cc_firstThatChose l D c h ad ba nv km C (nI q) hk24) (cwV 1 hts gX3_chosenValue_X3_firstThatChose rfl rfl rfl (by decide +kernel) ⟨Nat.le_of_ble_eq_true rfl, Nat.le_of_ble_eq_true rfl⟩) hK hI 0 2 rfl rfl rfl rfl hl.1 (Nat.le_of_ble_eq_true rfl) dX3_chosenValue_2 ⟨Nat.le_of_ble_eq_true rfl, Nat.le_of_ble_eq_true rfl⟩) (fun r_3 er_3 => ?_)
      obtain rfl : r_3 = some (ba b 0) := by rw [er_3]; unfold bc_ftc; rw [hx1]; show (bc_ch C km q).map _ = _; rw [hch]; rfl
      refine lv_astore_n (lv' := [(2, .ref (ba b 0)), (0, .ref h), (1, .int (nI q))]) hx hb dX3_chosenValue_5 rfl hl (by decide) rfl (fun ls hl => ?_)
      refine lv_aload_n hx hb dX3_chosenValue_6 rfl (lv_at hl 0 rfl) ?_
      refine lv_ifnull hx hb dX3_chosenValue_7 ?_
      refine lv_iload_n hx hb dX3_chosenValue_10 rfl (lv_at hl 2 rfl) ?_
      refine vp_callSi (bn_roS (As := [.int (nI q)]) (rest := []) ⟨hx, hb, hml, hown, hts⟩ (cc_isPlace l (nI q)) (va_cwS 1 hts gX3_chosenValue_X3_isPlace rfl rfl rfl (by decide +kernel) ⟨Nat.le_of_ble_eq_true rfl, Nat.le_of_ble_eq_true rfl⟩) rfl hl.1 (Nat.le_of_ble_eq_true rfl) dX3_chosenValue_11 ⟨Nat.le_of_ble_eq_true rfl, Nat.le_of_ble_eq_true rfl⟩) (fun r_4 er_4 => ?_)
      obtain rfl : r_4 = nI 1 := by rw [er_4, hx1]; rfl
      refine lv_if_ne (tgt := 21) hx hb dX3_chosenValue_14 (by decide) (fun c_5 => ?_) (fun c_5 => ?_)
      · refine lv_aload_n hx hb dX3_chosenValue_21 rfl (lv_at hl 0 rfl) ?_
        refine bn_get (ci := 1) (v := .ref (ba b 2)) (C := RX1) (T := TX1) (N := 14) hx hb hts hinX1 hown hK hI (10 + (5 * (b - 1) + 0)) ((bh_cw_b hb1 hb2 0 (by decide)).trans rfl) rfl 11 (by decide) lk_81 rfl (rfl) dX3_chosenValue_22 ?_
        refine lv_iload_n hx hb dX3_chosenValue_25 rfl (lv_at hl 2 rfl) ?_
        refine bn_lald (n := 8) (v := C.2.2.2 b q) hx hb hK hI (10 + (5 * (b - 1) + 2)) 1 ((bh_cw_b hb1 hb2 2 (by decide)).trans rfl) rfl (by omega) (by first | decide | omega) (rfl) dX3_chosenValue_26 ?_
        exact bn_rotl hx hb hr hlocks (by unfold bc_mchv; rw [hx1]; show _ = bc_chv C km q; unfold bc_chv; rw [hch]) dX3_chosenValue_27
      · first | exact absurd c_5 (by decide) | exact absurd (by decide) c_5
set_option maxHeartbeats 4000000 in
set_option maxRecDepth 100000 in
theorem cc_isOne (l : Launch) (D : va_G) (c : bh_C) (h : Nat) (ad : Nat → Nat) (ba : Nat → Nat → Nat) (nv km : Nat) (C : cS) (x : Int32) (hk24 : km ≤ 24) : Met l yX3_isOne wsX3_isOne ({ frames := 3, cells := 0, slots := 0, locals := 64 }) (va_Pc [.ref h, .int (x)] (bh_pre D c (bh_cw h ad ba c nv km (C)))) (vp_Si (fun r => r = bc_mone C km x)) 0 0 (fun _ => False) := by
  refine Met.ofW (cc := cX3_isOne) (maxL := 5) (ret := (some .boolean)) (by decide) rfl ?_
  intro p e s m args below meth c0 s₁ B hml hv
  obtain ⟨rfl, hP, hK, hD0⟩ := hv
  have hx := B.exec
  have hb := B.bytes
  have hr := B.returns
  have hts := atoms_spec (ws := wsX3_isOne) B.pre
  have hown : s.vm.findClass RX3 = some m.cls := findClass_of_methodNamed B.named
  have hlocks := B.notSynchronized
  have hinX1 : ∀ w ∈ wsX10, w ∈ wsX3_isOne := fun _ h => List.mem_cons_of_mem _ (List.mem_append_left _ (List.mem_append_right _ h))
  have hinX3 : ∀ w ∈ wsX30, w ∈ wsX3_isOne := fun _ h => List.mem_cons_of_mem _ (List.mem_append_right _ h)
  have lk_43 : (Cond.fieldLink RX3 43 "BallotHouse" "made" "I").before _ s = true := hts _ (by decide +kernel)
  have lk_81 : (Cond.fieldLink RX3 81 "BallotHouse$Ballot" "words" "[J").before _ s = true := hts _ (by decide +kernel)
  have lk_91 : (Cond.fieldLink RX3 91 "BallotHouse$Ballot" "number" "I").before _ s = true := hts _ (by decide +kernel)
  have hI : bh_I D (bh_cw h ad ba c nv km (C)) (fun _ => True) s.heap s.heap [] := ⟨hP, hD0, va_S.rf⟩
  have hl := lv_entry ([.ref h, .int (x)]) (n := 5) (Nat.le_of_ble_eq_true rfl)
  rw [lg_entry_eq]
  generalize (lg_sl ([.ref h, .int (x)]) ++ List.replicate (5 - (lg_sl ([.ref h, .int (x)])).length) Slot.unset).toArray = ls at hl ⊢
  have hl : lv_has ls 5 [(0, .ref h), (1, .int (x))] := hl
  rcases hx1 : bh_ix x 8 with _ | q
  · refine lv_aload_n hx hb dX3_isOne_0 rfl (lv_at hl 0 rfl) ?_
    refine lv_iload_n hx hb dX3_isOne_1 rfl (lv_at hl 1 rfl) ?_
    refine va_csq (bn_roV (As := [.int (x)]) (rest := []) ⟨hx, hb, hml, hown, hts⟩ (cc_firstThatChose l D c h ad ba nv km C (x) hk24) (cwV 1 hts gX3_isOne_X3_firstThatChose rfl rfl rfl (by decide +kernel) ⟨Nat.le_of_ble_eq_true rfl, Nat.le_of_ble_eq_true rfl⟩) hK hI 0 2 rfl rfl rfl rfl hl.1 (Nat.le_of_ble_eq_true rfl) dX3_isOne_2 ⟨Nat.le_of_ble_eq_true rfl, Nat.le_of_ble_eq_true rfl⟩) (fun r_1 er_1 => ?_)
    obtain rfl : r_1 = none := by rw [er_1]; unfold bc_ftc; rw [hx1]
    refine lv_astore_nN (lv' := [(2, .null), (0, .ref h), (1, .int (x))]) hx hb dX3_isOne_5 rfl hl (by decide) rfl (fun ls hl => ?_)
    refine lv_aload_nN hx hb dX3_isOne_6 rfl (lv_at hl 0 rfl) ?_
    refine lv_ifnullN (tgt := 17) hx hb dX3_isOne_7 (by decide) ?_
    refine lv_iconst (v := nI 1) hx hb dX3_isOne_17 (by decide) ?_
    exact bn_rotz hx hb hr hlocks (by unfold bc_mone; rw [hx1]) (by decide) dX3_isOne_18
  · obtain ⟨hq, rfl⟩ := bh_ix_some hx1
    refine lv_aload_n hx hb dX3_isOne_0 rfl (lv_at hl 0 rfl) ?_
    rcases hch : bc_ch C km q with _ | b
    · refine lv_iload_n hx hb dX3_isOne_1 rfl (lv_at hl 1 rfl) ?_
      refine va_csq (bn_roV (As := [.int (nI q)]) (rest := []) ⟨hx, hb, hml, hown, hts⟩ (cc_firstThatChose l D c h ad ba nv km C (nI q) hk24) (cwV 1 hts gX3_isOne_X3_firstThatChose rfl rfl rfl (by decide +kernel) ⟨Nat.le_of_ble_eq_true rfl, Nat.le_of_ble_eq_true rfl⟩) hK hI 0 2 rfl rfl rfl rfl hl.1 (Nat.le_of_ble_eq_true rfl) dX3_isOne_2 ⟨Nat.le_of_ble_eq_true rfl, Nat.le_of_ble_eq_true rfl⟩) (fun r_2 er_2 => ?_)
      obtain rfl : r_2 = none := by rw [er_2]; unfold bc_ftc; rw [hx1]; show (bc_ch C km q).map _ = _; rw [hch]; rfl
      refine lv_astore_nN (lv' := [(2, .null), (0, .ref h), (1, .int (nI q))]) hx hb dX3_isOne_5 rfl hl (by decide) rfl (fun ls hl => ?_)
      refine lv_aload_nN hx hb dX3_isOne_6 rfl (lv_at hl 0 rfl) ?_
      refine lv_ifnullN (tgt := 17) hx hb dX3_isOne_7 (by decide) ?_
      refine lv_iconst (v := nI 1) hx hb dX3_isOne_17 (by decide) ?_
      exact bn_rotz hx hb hr hlocks (by unfold bc_mone; rw [hx1]; show _ = bh_tf (bc_one C km q); unfold bc_one; rw [hch]; rfl) (by decide) dX3_isOne_18
    · have hbb := bc_chL_in C q _ _ hch
      have hb1 : 1 ≤ b := hbb.1
      have hb2 : b ≤ km := by omega
      refine lv_iload_n hx hb dX3_isOne_1 rfl (lv_at hl 1 rfl) ?_
      refine va_csq (bn_roV (As := [.int (nI q)]) (rest := []) ⟨hx, hb, hml, hown, hts⟩ (cc_firstThatChose l D c h ad ba nv km C (nI q) hk24) (cwV 1 hts gX3_isOne_X3_firstThatChose rfl rfl rfl (by decide +kernel) ⟨Nat.le_of_ble_eq_true rfl, Nat.le_of_ble_eq_true rfl⟩) hK hI 0 2 rfl rfl rfl rfl hl.1 (Nat.le_of_ble_eq_true rfl) dX3_isOne_2 ⟨Nat.le_of_ble_eq_true rfl, Nat.le_of_ble_eq_true rfl⟩) (fun r_3 er_3 => ?_)
      obtain rfl : r_3 = some (ba b 0) := by rw [er_3]; unfold bc_ftc; rw [hx1]; show (bc_ch C km q).map _ = _; rw [hch]; rfl
      refine lv_astore_n (lv' := [(2, .ref (ba b 0)), (0, .ref h), (1, .int (nI q))]) hx hb dX3_isOne_5 rfl hl (by decide) rfl (fun ls hl => ?_)
      refine lv_aload_n hx hb dX3_isOne_6 rfl (lv_at hl 0 rfl) ?_
      refine lv_ifnull hx hb dX3_isOne_7 ?_
      refine lv_iload_n hx hb dX3_isOne_10 rfl (lv_at hl 2 rfl) ?_
      refine vp_callSi (bn_roS (As := [.int (nI q)]) (rest := []) ⟨hx, hb, hml, hown, hts⟩ (cc_isPlace l (nI q)) (va_cwS 1 hts gX3_isOne_X3_isPlace rfl rfl rfl (by decide +kernel) ⟨Nat.le_of_ble_eq_true rfl, Nat.le_of_ble_eq_true rfl⟩) rfl hl.1 (Nat.le_of_ble_eq_true rfl) dX3_isOne_11 ⟨Nat.le_of_ble_eq_true rfl, Nat.le_of_ble_eq_true rfl⟩) (fun r_4 er_4 => ?_)
      obtain rfl : r_4 = nI 1 := by rw [er_4, hx1]; rfl
      refine lv_if_ne (tgt := 19) hx hb dX3_isOne_14 (by decide) (fun c_5 => ?_) (fun c_5 => ?_)
      · refine lv_aload_n hx hb dX3_isOne_19 rfl (lv_at hl 0 rfl) ?_
        refine bn_get (ci := 1) (v := .int (nI b)) (C := RX1) (T := TX1) (N := 14) hx hb hts hinX1 hown hK hI (10 + (5 * (b - 1) + 0)) ((bh_cw_b hb1 hb2 0 (by decide)).trans rfl) rfl 0 (by decide) lk_91 rfl (rfl) dX3_isOne_20 ?_
        refine lv_iconst (v := nI 1) hx hb dX3_isOne_23 (by decide) ?_
        refine bn_iadd hx hb dX3_isOne_24 ?_
        refine lv_istore_n (lv' := [(3, .int (nI (b + 1))), (2, .ref (ba b 0)), (0, .ref h), (1, .int (nI q))]) hx hb dX3_isOne_25 rfl hl (by decide) rfl (fun ls hl => ?_)
        refine bh_loop (σ := Nat) (fun (d : Nat) H locs ls => H = s.heap ∧ locs = [] ∧ d ≤ km - b ∧ bc_oneL C q b d = true ∧ lv_has ls 5 [(3, .int (nI (b + 1 + d))), (2, .ref (ba b 0)), (0, .ref h), (1, .int (nI q))]) (fun (d : Nat) => km - b - d) (fun d H locs ls hx_6 ih_6 => ?_) 0 _ _ _ ⟨rfl, rfl, Nat.zero_le _, rfl, lv_sub hl [0, 1, 2, 3] rfl⟩
        clear hl
        obtain ⟨rfl, rfl, hd, h1_, hl⟩ := hx_6
        refine lv_iload_n hx hb dX3_isOne_26 rfl (lv_at hl 0 rfl) ?_
        refine lv_aload_n hx hb dX3_isOne_27 rfl (lv_at hl 2 rfl) ?_
        refine bn_get (ci := 2) (v := .int (nI km)) (C := RX3) (T := TX3) (N := 8) hx hb hts hinX3 hown hK hI 0 rfl rfl 5 (by decide) lk_43 rfl (rfl) dX3_isOne_28 ?_
        refine bn_cmp_gt (tgt := 80) hx hb (by omega) (by omega) dX3_isOne_31 (by decide) (fun c_7 => ?_) (fun c_7 => ?_)
        · refine lv_iconst (v := nI 1) hx hb dX3_isOne_80 (by decide) ?_
          exact bn_rotz hx hb hr hlocks (by unfold bc_mone; rw [hx1]; show _ = bh_tf (bc_one C km q); unfold bc_one; rw [hch]; show _ = bh_tf (bc_oneL C q b (km - b)); rw [show km - b = d by omega, h1_]; rfl) (by decide) dX3_isOne_81
        · obtain ⟨j_, hj_, hj_1, hj_2⟩ : ∃ j, j = b + 1 + d ∧ 1 ≤ j ∧ j ≤ km := ⟨_, rfl, by omega, by omega⟩
          rw [← hj_] at hl
          refine lv_aload_n hx hb dX3_isOne_34 rfl (lv_at hl 2 rfl) ?_
          refine lv_iload_n hx hb dX3_isOne_35 rfl (lv_at hl 0 rfl) ?_
          refine va_csq (bn_roV (As := [.int (nI j_)]) (rest := []) ⟨hx, hb, hml, hown, hts⟩ (cc_find l D c h ad ba nv km (C) (j_) (hj_1) (hj_2) hk24) (cwV 1 hts gX3_isOne_X3_find rfl rfl rfl (by decide +kernel) ⟨Nat.le_of_ble_eq_true rfl, Nat.le_of_ble_eq_true rfl⟩) hK hI 0 2 rfl rfl rfl rfl hl.1 (Nat.le_of_ble_eq_true rfl) dX3_isOne_36 ⟨Nat.le_of_ble_eq_true rfl, Nat.le_of_ble_eq_true rfl⟩) (fun r_8 er_8 => ?_)
          subst er_8
          refine lv_astore (lv' := [(4, .ref (ba j_ 0)), (3, .int (nI j_)), (2, .ref (ba b 0)), (0, .ref h), (1, .int (nI q))]) hx hb dX3_isOne_39 hl (by decide) rfl (fun ls hl => ?_)
          refine lv_aload hx hb dX3_isOne_41 (lv_at hl 0 rfl) ?_
          refine lv_ifnull hx hb dX3_isOne_43 ?_
          refine lv_aload hx hb dX3_isOne_46 (lv_at hl 0 rfl) ?_
          refine lv_iload_n hx hb dX3_isOne_48 rfl (lv_at hl 4 rfl) ?_
          refine vp_callSi (bn_roV (As := [.int (nI q)]) (rest := []) ⟨hx, hb, hml, hown, hts⟩ (cc_hasChosen l D c h ad ba nv km C j_ hj_1 hj_2 q hq) (cwV 1 hts gX3_isOne_X1_hasChosen rfl rfl rfl (by decide +kernel) ⟨Nat.le_of_ble_eq_true rfl, Nat.le_of_ble_eq_true rfl⟩) hK hI (10 + (5 * (j_ - 1) + 0)) 1 rfl rfl ((bh_cw_b hj_1 hj_2 0 (by decide)).trans rfl) rfl hl.1 (Nat.le_of_ble_eq_true rfl) dX3_isOne_49 ⟨Nat.le_of_ble_eq_true rfl, Nat.le_of_ble_eq_true rfl⟩) (fun r_9 er_9 => ?_)
          subst er_9
          refine lv_if_eq (tgt := 74) hx hb dX3_isOne_52 (by decide) (fun c_10 => ?_) (fun c_10 => ?_)
          · have q_1 := c_10
            refine lv_iinc (v := nI (j_ + 1)) (lv' := [(3, .int (nI (j_ + 1))), (4, .ref (ba j_ 0)), (2, .ref (ba b 0)), (0, .ref h), (1, .int (nI q))]) hx hb dX3_isOne_74 hl (k := 1) rfl (nI_1 _) (by decide) rfl (fun ls hl => ?_)
            refine lv_goto (tgt := 26) hx hb dX3_isOne_77 (by decide) ?_
            exact ih_6 (d + 1) _ _ _ ⟨rfl, rfl, by omega, by unfold bc_oneL; rw [h1_, ← hj_, bh_tf_eq q_1]; rfl, (by rw [show b + 1 + (d + 1) = j_ + 1 by omega]; exact (lv_sub hl [0, 2, 3, 4] rfl))⟩ (by show km - b - (d + 1) < km - b - d; omega)
          · have q_1 := bh_tf_ne c_10
            refine lv_aload hx hb dX3_isOne_55 (lv_at hl 0 rfl) ?_
            refine bn_get (ci := 1) (v := .ref (ba j_ 2)) (C := RX1) (T := TX1) (N := 14) hx hb hts hinX1 hown hK hI (10 + (5 * (j_ - 1) + 0)) ((bh_cw_b hj_1 hj_2 0 (by decide)).trans rfl) rfl 11 (by decide) lk_81 rfl (rfl) dX3_isOne_57 ?_
            refine lv_iload_n hx hb dX3_isOne_60 rfl (lv_at hl 4 rfl) ?_
            refine bn_lald (n := 8) (v := C.2.2.2 j_ q) hx hb hK hI (10 + (5 * (j_ - 1) + 2)) 1 ((bh_cw_b hj_1 hj_2 2 (by decide)).trans rfl) rfl (by omega) (by first | decide | omega) (rfl) dX3_isOne_61 ?_
            refine lv_aload_n hx hb dX3_isOne_62 rfl (lv_at hl 2 rfl) ?_
            refine bn_get (ci := 1) (v := .ref (ba b 2)) (C := RX1) (T := TX1) (N := 14) hx hb hts hinX1 hown hK hI (10 + (5 * (b - 1) + 0)) ((bh_cw_b hb1 hb2 0 (by decide)).trans rfl) rfl 11 (by decide) lk_81 rfl (rfl) dX3_isOne_63 ?_
            refine lv_iload_n hx hb dX3_isOne_66 rfl (lv_at hl 4 rfl) ?_
            refine bn_lald (n := 8) (v := C.2.2.2 b q) hx hb hK hI (10 + (5 * (b - 1) + 2)) 1 ((bh_cw_b hb1 hb2 2 (by decide)).trans rfl) rfl (by omega) (by first | decide | omega) (rfl) dX3_isOne_67 ?_
            refine W.lcmp hx hb dX3_isOne_68 ?_
            refine lv_if_eq (tgt := 74) hx hb dX3_isOne_69 (by decide) (fun c_11 => ?_) (fun c_11 => ?_)
            · have q_2 := bh_lcmp_eq c_11
              refine lv_iinc (v := nI (j_ + 1)) (lv' := [(3, .int (nI (j_ + 1))), (4, .ref (ba j_ 0)), (2, .ref (ba b 0)), (0, .ref h), (1, .int (nI q))]) hx hb dX3_isOne_74 hl (k := 1) rfl (nI_1 _) (by decide) rfl (fun ls hl => ?_)
              refine lv_goto (tgt := 26) hx hb dX3_isOne_77 (by decide) ?_
              exact ih_6 (d + 1) _ _ _ ⟨rfl, rfl, by omega, by unfold bc_oneL; rw [h1_, ← hj_, q_1, decide_eq_true q_2]; rfl, (by rw [show b + 1 + (d + 1) = j_ + 1 by omega]; exact (lv_sub hl [0, 2, 3, 4] rfl))⟩ (by show km - b - (d + 1) < km - b - d; omega)
            · have q_2 := bh_lcmp_ne c_11
              refine lv_iconst (v := nI 0) hx hb dX3_isOne_72 (by decide) ?_
              exact bn_rotz hx hb hr hlocks (by unfold bc_mone; rw [hx1]; show _ = bh_tf (bc_one C km q); unfold bc_one; rw [hch]; show _ = bh_tf (bc_oneL C q b (km - b)); rw [bc_oneL_f (d := d + 1) (by unfold bc_oneL; rw [h1_, ← hj_, q_1, decide_eq_false q_2]; rfl) (by omega)]; rfl) (by decide) dX3_isOne_73
      · first | exact absurd c_5 (by decide) | exact absurd (by decide) c_5
set_option maxHeartbeats 4000000 in
set_option maxRecDepth 100000 in
theorem cc_lose (l : Launch) (D : va_G) (c : bh_C) (h : Nat) (ad : Nat → Nat) (ba : Nat → Nat → Nat) (nv km : Nat) (sz : Nat) (C : cS) (x : Int32) (ha : C.1.1 15 ≤ 400) : Met l yX3_lose wsX3_lose ({ frames := 2, cells := 0, slots := 0, locals := 82 }) (va_Pc [.ref h, .int (x)] (bh_prm D c (bh_cw h ad ba c nv km (C)) sz)) (va_Qi (fun (r : Int32) (u : cS) => r = (bc_mlose C x).1 ∧ u = (bc_mlose C x).2) (fun u t => bh_post D c (bh_cw h ad ba c nv km u) (va_A (bh_cw h ad ba c nv km (C)) sz) t) (va_A (bh_cw h ad ba c nv km (C)) sz)) 0 0 (va_A (bh_cw h ad ba c nv km (C)) sz) := by
  refine Met.ofW (cc := cX3_lose) (maxL := 2) (ret := (some .boolean)) (by decide) rfl ?_
  intro p e s m args below meth c0 s₁ B hml hv
  obtain ⟨rfl, hsz, hP, hK, hD0⟩ := hv
  have hx := B.exec
  have hb := B.bytes
  have hr := B.returns
  have hts := atoms_spec (ws := wsX3_lose) B.pre
  have hown : s.vm.findClass RX3 = some m.cls := findClass_of_methodNamed B.named
  have hlocks := B.notSynchronized
  have hinX3 : ∀ w ∈ wsX30, w ∈ wsX3_lose := fun _ h => List.mem_cons_of_mem _ (List.mem_append_left _ (List.mem_append_right _ h))
  have hinX0 : ∀ w ∈ wsX00, w ∈ wsX3_lose := fun _ h => List.mem_cons_of_mem _ (List.mem_append_right _ h)
  have lk_39 : (Cond.fieldLink RX3 39 "BallotHouse" "letters" "LBallotHouse$Air;").before _ s = true := hts _ (by decide +kernel)
  subst hsz
  have hI := bh_start hP hD0
  generalize hAe : va_A (bh_cw h ad ba c nv km (C)) s.heap.size = A at hI ⊢
  have hA : ∀ q : Nat, s.heap.size ≤ q → A q := fun q h => by rw [← hAe]; exact Or.inr h
  clear hP hD0 hAe
  have hl := lv_entry ([.ref h, .int (x)]) (n := 2) (Nat.le_of_ble_eq_true rfl)
  rw [lg_entry_eq]
  generalize (lg_sl ([.ref h, .int (x)]) ++ List.replicate (2 - (lg_sl ([.ref h, .int (x)])).length) Slot.unset).toArray = ls at hl ⊢
  have hl : lv_has ls 2 [(0, .ref h), (1, .int (x))] := hl
  rcases hx1 : bh_ix x (C.1.1 15) with _ | k
  · refine lv_aload_n hx hb dX3_lose_0 rfl (lv_at hl 0 rfl) ?_
    refine bn_get (ci := 2) (v := .ref (ad 7)) (C := RX3) (T := TX3) (N := 8) hx hb hts hinX3 hown hK hI 0 rfl rfl 7 (by decide) lk_39 rfl (rfl) dX3_lose_1 ?_
    refine lv_iload_n hx hb dX3_lose_4 rfl (lv_at hl 1 rfl) ?_
    refine vp_callSi (bn_roV (As := [.int (x)]) (rest := []) ⟨hx, hb, hml, hown, hts⟩ (cc_has l D c h ad ba nv km (C) (x) ha) (cwV 1 hts gX3_lose_X0_has rfl rfl rfl (by decide +kernel) ⟨Nat.le_of_ble_eq_true rfl, Nat.le_of_ble_eq_true rfl⟩) hK hI 4 0 rfl rfl rfl rfl hl.1 (Nat.le_of_ble_eq_true rfl) dX3_lose_5 ⟨Nat.le_of_ble_eq_true rfl, Nat.le_of_ble_eq_true rfl⟩) (fun r_1 er_1 => ?_)
    obtain rfl : r_1 = nI 0 := by rw [er_1, hx1]; rfl
    refine lv_if_ne (tgt := 13) hx hb dX3_lose_8 (by decide) (fun c_2 => ?_) (fun c_2 => ?_)
    · first | exact absurd c_2 (by decide) | exact absurd (by decide) c_2
    · refine lv_iconst (v := nI 0) hx hb dX3_lose_11 (by decide) ?_
      exact bn_retz hx hb hr hlocks hK (C) hI (by unfold bc_mlose; rw [hx1]; exact ⟨rfl, rfl⟩) (by decide) dX3_lose_12
  · obtain ⟨hk, rfl⟩ := bh_ix_some hx1
    refine lv_aload_n hx hb dX3_lose_0 rfl (lv_at hl 0 rfl) ?_
    refine bn_get (ci := 2) (v := .ref (ad 7)) (C := RX3) (T := TX3) (N := 8) hx hb hts hinX3 hown hK hI 0 rfl rfl 7 (by decide) lk_39 rfl (rfl) dX3_lose_1 ?_
    refine lv_iload_n hx hb dX3_lose_4 rfl (lv_at hl 1 rfl) ?_
    refine vp_callSi (bn_roV (As := [.int (nI k)]) (rest := []) ⟨hx, hb, hml, hown, hts⟩ (cc_has l D c h ad ba nv km (C) (nI k) ha) (cwV 1 hts gX3_lose_X0_has rfl rfl rfl (by decide +kernel) ⟨Nat.le_of_ble_eq_true rfl, Nat.le_of_ble_eq_true rfl⟩) hK hI 4 0 rfl rfl rfl rfl hl.1 (Nat.le_of_ble_eq_true rfl) dX3_lose_5 ⟨Nat.le_of_ble_eq_true rfl, Nat.le_of_ble_eq_true rfl⟩) (fun r_3 er_3 => ?_)
    obtain rfl : r_3 = nI 1 := by rw [er_3, hx1]; rfl
    refine lv_if_ne (tgt := 13) hx hb dX3_lose_8 (by decide) (fun c_4 => ?_) (fun c_4 => ?_)
    · refine lv_aload_n hx hb dX3_lose_13 rfl (lv_at hl 0 rfl) ?_
      refine bn_get (ci := 2) (v := .ref (ad 7)) (C := RX3) (T := TX3) (N := 8) hx hb hts hinX3 hown hK hI 0 rfl rfl 7 (by decide) lk_39 rfl (rfl) dX3_lose_14 ?_
      refine lv_iload_n hx hb dX3_lose_17 rfl (lv_at hl 1 rfl) ?_
      refine bn_muv (bn_muV (As := [.int (nI k)]) (rest := []) ⟨hx, hb, hml, hown, hts⟩ (cc_drop l D c h ad ba nv km _ C k ha hk) (cwV 1 hts gX3_lose_X0_drop rfl rfl rfl (by decide +kernel) ⟨Nat.le_of_ble_eq_true rfl, Nat.le_of_ble_eq_true rfl⟩) hK hI 4 0 rfl rfl rfl rfl hl.1 (Nat.le_of_ble_eq_true rfl) dX3_lose_18 ⟨Nat.le_of_ble_eq_true rfl, Nat.le_of_ble_eq_true rfl⟩) hI hA (fun u_5 H locs eu_5 hI => ?_)
      subst eu_5
      refine lv_iconst (v := nI 1) hx hb dX3_lose_21 (by decide) ?_
      exact bn_retz hx hb hr hlocks hK (bc_dp C k) hI (by unfold bc_mlose; rw [hx1]; exact ⟨rfl, rfl⟩) (by decide) dX3_lose_22
    · first | exact absurd c_4 (by decide) | exact absurd (by decide) c_4
set_option maxHeartbeats 4000000 in
set_option maxRecDepth 100000 in
theorem cc_twice (l : Launch) (D : va_G) (c : bh_C) (h : Nat) (ad : Nat → Nat) (ba : Nat → Nat → Nat) (nv km : Nat) (sz : Nat) (C : cS) (x : Int32) (ha : C.1.1 15 ≤ 400) : Met l yX3_twice wsX3_twice ({ frames := 2, cells := 0, slots := 0, locals := 47 }) (va_Pc [.ref h, .int (x)] (bh_prm D c (bh_cw h ad ba c nv km (C)) sz)) (va_Qi (fun (r : Int32) (u : cS) => r = (bc_mtw C x).1 ∧ u = (bc_mtw C x).2) (fun u t => bh_post D c (bh_cw h ad ba c nv km u) (va_A (bh_cw h ad ba c nv km (C)) sz) t) (va_A (bh_cw h ad ba c nv km (C)) sz)) 0 0 (va_A (bh_cw h ad ba c nv km (C)) sz) := by
  refine Met.ofW (cc := cX3_twice) (maxL := 2) (ret := (some .boolean)) (by decide) rfl ?_
  intro p e s m args below meth c0 s₁ B hml hv
  obtain ⟨rfl, hsz, hP, hK, hD0⟩ := hv
  have hx := B.exec
  have hb := B.bytes
  have hr := B.returns
  have hts := atoms_spec (ws := wsX3_twice) B.pre
  have hown : s.vm.findClass RX3 = some m.cls := findClass_of_methodNamed B.named
  have hlocks := B.notSynchronized
  have hinX3 : ∀ w ∈ wsX30, w ∈ wsX3_twice := fun _ h => List.mem_cons_of_mem _ (List.mem_append_left _ (List.mem_append_right _ h))
  have hinX0 : ∀ w ∈ wsX00, w ∈ wsX3_twice := fun _ h => List.mem_cons_of_mem _ (List.mem_append_right _ h)
  have lk_39 : (Cond.fieldLink RX3 39 "BallotHouse" "letters" "LBallotHouse$Air;").before _ s = true := hts _ (by decide +kernel)
  have lk_121 : (Cond.fieldLink RX3 121 "BallotHouse$Air" "size" "I").before _ s = true := hts _ (by decide +kernel)
  subst hsz
  have hI := bh_start hP hD0
  generalize hAe : va_A (bh_cw h ad ba c nv km (C)) s.heap.size = A at hI ⊢
  have hA : ∀ q : Nat, s.heap.size ≤ q → A q := fun q h => by rw [← hAe]; exact Or.inr h
  clear hP hD0 hAe
  have hl := lv_entry ([.ref h, .int (x)]) (n := 2) (Nat.le_of_ble_eq_true rfl)
  rw [lg_entry_eq]
  generalize (lg_sl ([.ref h, .int (x)]) ++ List.replicate (2 - (lg_sl ([.ref h, .int (x)])).length) Slot.unset).toArray = ls at hl ⊢
  have hl : lv_has ls 2 [(0, .ref h), (1, .int (x))] := hl
  rcases hx1 : bh_ix x (C.1.1 15) with _ | k
  · refine lv_aload_n hx hb dX3_twice_0 rfl (lv_at hl 0 rfl) ?_
    refine bn_get (ci := 2) (v := .ref (ad 7)) (C := RX3) (T := TX3) (N := 8) hx hb hts hinX3 hown hK hI 0 rfl rfl 7 (by decide) lk_39 rfl (rfl) dX3_twice_1 ?_
    refine lv_iload_n hx hb dX3_twice_4 rfl (lv_at hl 1 rfl) ?_
    refine vp_callSi (bn_roV (As := [.int (x)]) (rest := []) ⟨hx, hb, hml, hown, hts⟩ (cc_has l D c h ad ba nv km (C) (x) ha) (cwV 1 hts gX3_twice_X0_has rfl rfl rfl (by decide +kernel) ⟨Nat.le_of_ble_eq_true rfl, Nat.le_of_ble_eq_true rfl⟩) hK hI 4 0 rfl rfl rfl rfl hl.1 (Nat.le_of_ble_eq_true rfl) dX3_twice_5 ⟨Nat.le_of_ble_eq_true rfl, Nat.le_of_ble_eq_true rfl⟩) (fun r_1 er_1 => ?_)
    obtain rfl : r_1 = nI 0 := by rw [er_1, hx1]; rfl
    refine lv_if_eq (tgt := 24) hx hb dX3_twice_8 (by decide) (fun c_2 => ?_) (fun c_2 => ?_)
    · refine lv_iconst (v := nI 0) hx hb dX3_twice_24 (by decide) ?_
      exact bn_retz hx hb hr hlocks hK (C) hI (by unfold bc_mtw; rw [hx1]; exact ⟨rfl, rfl⟩) (by decide) dX3_twice_25
    · first | exact absurd c_2 (by decide) | exact absurd (by decide) c_2
  · obtain ⟨hk, rfl⟩ := bh_ix_some hx1
    refine lv_aload_n hx hb dX3_twice_0 rfl (lv_at hl 0 rfl) ?_
    refine bn_get (ci := 2) (v := .ref (ad 7)) (C := RX3) (T := TX3) (N := 8) hx hb hts hinX3 hown hK hI 0 rfl rfl 7 (by decide) lk_39 rfl (rfl) dX3_twice_1 ?_
    refine lv_iload_n hx hb dX3_twice_4 rfl (lv_at hl 1 rfl) ?_
    refine vp_callSi (bn_roV (As := [.int (nI k)]) (rest := []) ⟨hx, hb, hml, hown, hts⟩ (cc_has l D c h ad ba nv km (C) (nI k) ha) (cwV 1 hts gX3_twice_X0_has rfl rfl rfl (by decide +kernel) ⟨Nat.le_of_ble_eq_true rfl, Nat.le_of_ble_eq_true rfl⟩) hK hI 4 0 rfl rfl rfl rfl hl.1 (Nat.le_of_ble_eq_true rfl) dX3_twice_5 ⟨Nat.le_of_ble_eq_true rfl, Nat.le_of_ble_eq_true rfl⟩) (fun r_3 er_3 => ?_)
    obtain rfl : r_3 = nI 1 := by rw [er_3, hx1]; rfl
    refine lv_if_eq (tgt := 24) hx hb dX3_twice_8 (by decide) (fun c_4 => ?_) (fun c_4 => ?_)
    · first | exact absurd c_4 (by decide) | exact absurd (by decide) c_4
    · refine lv_aload_n hx hb dX3_twice_11 rfl (lv_at hl 0 rfl) ?_
      refine bn_get (ci := 2) (v := .ref (ad 7)) (C := RX3) (T := TX3) (N := 8) hx hb hts hinX3 hown hK hI 0 rfl rfl 7 (by decide) lk_39 rfl (rfl) dX3_twice_12 ?_
      refine bn_get (ci := 0) (v := .int (nI (C.1.1 15))) (C := RX0) (T := TX0) (N := 7) hx hb hts hinX0 hown hK hI 4 rfl rfl 5 (by decide) lk_121 rfl (rfl) dX3_twice_15 ?_
      refine lv_sipush (v := nI 400) hx hb dX3_twice_18 (by decide) ?_
      refine bn_cmp_lt (tgt := 26) hx hb (by omega) (by omega) dX3_twice_21 (by decide) (fun c_5 => ?_) (fun c_5 => ?_)
      · refine lv_aload_n hx hb dX3_twice_26 rfl (lv_at hl 0 rfl) ?_
        refine bn_get (ci := 2) (v := .ref (ad 7)) (C := RX3) (T := TX3) (N := 8) hx hb hts hinX3 hown hK hI 0 rfl rfl 7 (by decide) lk_39 rfl (rfl) dX3_twice_27 ?_
        refine lv_iload_n hx hb dX3_twice_30 rfl (lv_at hl 1 rfl) ?_
        refine bn_muv (bn_muV (As := [.int (nI k)]) (rest := []) ⟨hx, hb, hml, hown, hts⟩ (cc_repeat l D c h ad ba nv km _ C k ha hk) (cwV 1 hts gX3_twice_X0_repeat rfl rfl rfl (by decide +kernel) ⟨Nat.le_of_ble_eq_true rfl, Nat.le_of_ble_eq_true rfl⟩) hK hI 4 0 rfl rfl rfl rfl hl.1 (Nat.le_of_ble_eq_true rfl) dX3_twice_31 ⟨Nat.le_of_ble_eq_true rfl, Nat.le_of_ble_eq_true rfl⟩) hI hA (fun u_6 H locs eu_6 hI => ?_)
        subst eu_6
        refine lv_iconst (v := nI 1) hx hb dX3_twice_34 (by decide) ?_
        exact bn_retz hx hb hr hlocks hK (bc_rp C k) hI (by unfold bc_mtw; rw [hx1]; dsimp only; rw [if_pos c_5]; exact ⟨rfl, rfl⟩) (by decide) dX3_twice_35
      · refine lv_iconst (v := nI 0) hx hb dX3_twice_24 (by decide) ?_
        exact bn_retz hx hb hr hlocks hK (C) hI (by unfold bc_mtw; rw [hx1]; dsimp only; rw [if_neg c_5]; exact ⟨rfl, rfl⟩) (by decide) dX3_twice_25
set_option maxHeartbeats 4000000 in
set_option maxRecDepth 100000 in
theorem cc_silent (l : Launch) (D : va_G) (c : bh_C) (h : Nat) (ad : Nat → Nat) (ba : Nat → Nat → Nat) (nv km : Nat) (sz : Nat) (C : cS) (x z : Int32) (hn : nv ≤ 7) : Met l yX3_silent wsX3_silent ({ frames := 1, cells := 0, slots := 0, locals := 21 }) (va_Pc [.ref h, .int (x), .int (z)] (bh_prm D c (bh_cw h ad ba c nv km (C)) sz)) (va_Qi (fun (r : Int32) (u : cS) => r = (bc_msil C nv x z).1 ∧ u = (bc_msil C nv x z).2) (fun u t => bh_post D c (bh_cw h ad ba c nv km u) (va_A (bh_cw h ad ba c nv km (C)) sz) t) (va_A (bh_cw h ad ba c nv km (C)) sz)) 0 0 (va_A (bh_cw h ad ba c nv km (C)) sz) := by
  refine Met.ofW (cc := cX3_silent) (maxL := 4) (ret := (some .boolean)) (by decide) rfl ?_
  intro p e s m args below meth c0 s₁ B hml hv
  obtain ⟨rfl, hsz, hP, hK, hD0⟩ := hv
  have hx := B.exec
  have hb := B.bytes
  have hr := B.returns
  have hts := atoms_spec (ws := wsX3_silent) B.pre
  have hown : s.vm.findClass RX3 = some m.cls := findClass_of_methodNamed B.named
  have hlocks := B.notSynchronized
  have hinX3 : ∀ w ∈ wsX30, w ∈ wsX3_silent := fun _ h => List.mem_cons_of_mem _ (List.mem_append_right _ h)
  have lk_130 : (Cond.fieldLink RX3 130 "BallotHouse" "silentVoters" "I").before _ s = true := hts _ (by decide +kernel)
  subst hsz
  have hI := bh_start hP hD0
  generalize hAe : va_A (bh_cw h ad ba c nv km (C)) s.heap.size = A at hI ⊢
  have hA : ∀ q : Nat, s.heap.size ≤ q → A q := fun q h => by rw [← hAe]; exact Or.inr h
  clear hP hD0 hAe
  have hl := lv_entry ([.ref h, .int (x), .int (z)]) (n := 4) (Nat.le_of_ble_eq_true rfl)
  rw [lg_entry_eq]
  generalize (lg_sl ([.ref h, .int (x), .int (z)]) ++ List.replicate (4 - (lg_sl ([.ref h, .int (x), .int (z)])).length) Slot.unset).toArray = ls at hl ⊢
  have hl : lv_has ls 4 [(0, .ref h), (1, .int (x)), (2, .int (z))] := hl
  rcases hx1 : bh_ix x nv with _ | v
  · refine lv_aload_n hx hb dX3_silent_0 rfl (lv_at hl 0 rfl) ?_
    refine lv_iload_n hx hb dX3_silent_1 rfl (lv_at hl 1 rfl) ?_
    refine vp_callSi (bn_roV (As := [.int (x)]) (rest := []) ⟨hx, hb, hml, hown, hts⟩ (cc_isVoter l D c h ad ba nv km (C) (x) hn) (cwV 1 hts gX3_silent_X3_isVoter rfl rfl rfl (by decide +kernel) ⟨Nat.le_of_ble_eq_true rfl, Nat.le_of_ble_eq_true rfl⟩) hK hI 0 2 rfl rfl rfl rfl hl.1 (Nat.le_of_ble_eq_true rfl) dX3_silent_2 ⟨Nat.le_of_ble_eq_true rfl, Nat.le_of_ble_eq_true rfl⟩) (fun r_1 er_1 => ?_)
    obtain rfl : r_1 = nI 0 := by rw [er_1, hx1]; rfl
    refine lv_if_ne (tgt := 10) hx hb dX3_silent_5 (by decide) (fun c_2 => ?_) (fun c_2 => ?_)
    · first | exact absurd c_2 (by decide) | exact absurd (by decide) c_2
    · refine lv_iconst (v := nI 0) hx hb dX3_silent_8 (by decide) ?_
      exact bn_retz hx hb hr hlocks hK (C) hI (by unfold bc_msil; rw [hx1]; exact ⟨rfl, rfl⟩) (by decide) dX3_silent_9
  · obtain ⟨hv, rfl⟩ := bh_ix_some hx1
    refine lv_aload_n hx hb dX3_silent_0 rfl (lv_at hl 0 rfl) ?_
    refine lv_iload_n hx hb dX3_silent_1 rfl (lv_at hl 1 rfl) ?_
    refine vp_callSi (bn_roV (As := [.int (nI v)]) (rest := []) ⟨hx, hb, hml, hown, hts⟩ (cc_isVoter l D c h ad ba nv km (C) (nI v) hn) (cwV 1 hts gX3_silent_X3_isVoter rfl rfl rfl (by decide +kernel) ⟨Nat.le_of_ble_eq_true rfl, Nat.le_of_ble_eq_true rfl⟩) hK hI 0 2 rfl rfl rfl rfl hl.1 (Nat.le_of_ble_eq_true rfl) dX3_silent_2 ⟨Nat.le_of_ble_eq_true rfl, Nat.le_of_ble_eq_true rfl⟩) (fun r_3 er_3 => ?_)
    obtain rfl : r_3 = nI 1 := by rw [er_3, hx1]; rfl
    refine lv_if_ne (tgt := 10) hx hb dX3_silent_5 (by decide) (fun c_4 => ?_) (fun c_4 => ?_)
    · refine lv_iconst (v := nI 1) hx hb dX3_silent_10 (by decide) ?_
      refine lv_iload_n hx hb dX3_silent_11 rfl (lv_at hl 1 rfl) ?_
      refine lv_ishl hx hb dX3_silent_12 ?_
      refine lv_istore_n (lv' := [(3, .int ((nI 1) <<< ((nI v) &&& 31))), (0, .ref h), (1, .int (nI v)), (2, .int (z))]) hx hb dX3_silent_13 rfl hl (by decide) rfl (fun ls hl => ?_)
      refine lv_aload_n hx hb dX3_silent_14 rfl (lv_at hl 1 rfl) ?_
      refine lv_iload_n hx hb dX3_silent_15 rfl (lv_at hl 3 rfl) ?_
      refine lv_if_eq (tgt := 28) hx hb dX3_silent_16 (by decide) (fun c_5 => ?_) (fun c_5 => ?_)
      · refine lv_aload_n hx hb dX3_silent_28 rfl (lv_at hl 1 rfl) ?_
        refine bn_get (ci := 2) (v := .int (C.1.2.1 3)) (C := RX3) (T := TX3) (N := 8) hx hb hts hinX3 hown hK hI 0 rfl rfl 3 (by decide) lk_130 rfl (rfl) dX3_silent_29 ?_
        refine lv_iload_n hx hb dX3_silent_32 rfl (lv_at hl 0 rfl) ?_
        refine lv_iconst (v := -1) hx hb dX3_silent_33 (by decide) ?_
        refine lv_ixor hx hb dX3_silent_34 ?_
        refine lv_iand hx hb dX3_silent_35 ?_
        refine bn_put (ci := 2) (v := .int ((C.1.2.1 3) &&& (((nI 1) <<< ((nI v) &&& 31)) ^^^ (-1)))) (ty := .int) (C := RX3) (T := TX3) (N := 8) (ws' := bh_cw h ad ba c nv km (bc_i C 3 ((C.1.2.1 3) &&& (((nI 1) <<< ((nI v) &&& 31)) ^^^ (-1))))) hx hb hts hinX3 tyX3 tyX3_ok nmX3 hown hK hI 0 rfl rfl 3 (by decide) lk_130 rfl rfl rfl rfl rfl (Nat.le_of_ble_eq_true rfl) dX3_silent_36 rfl (fun H locs hI => ?_)
        refine lv_iconst (v := nI 1) hx hb dX3_silent_39 (by decide) ?_
        exact bn_retz hx hb hr hlocks hK (bc_i C 3 ((C.1.2.1 3) &&& (((nI 1) <<< ((nI v) &&& 31)) ^^^ (-1)))) hI (by unfold bc_msil; rw [hx1]; exact ⟨rfl, (if_pos c_5).symm⟩) (by decide) dX3_silent_40
      · refine lv_aload_n hx hb dX3_silent_19 rfl (lv_at hl 1 rfl) ?_
        refine bn_get (ci := 2) (v := .int (C.1.2.1 3)) (C := RX3) (T := TX3) (N := 8) hx hb hts hinX3 hown hK hI 0 rfl rfl 3 (by decide) lk_130 rfl (rfl) dX3_silent_20 ?_
        refine lv_iload_n hx hb dX3_silent_23 rfl (lv_at hl 0 rfl) ?_
        refine lv_ior hx hb dX3_silent_24 ?_
        refine lv_goto (tgt := 36) hx hb dX3_silent_25 (by decide) ?_
        refine bn_put (ci := 2) (v := .int ((C.1.2.1 3) ||| ((nI 1) <<< ((nI v) &&& 31)))) (ty := .int) (C := RX3) (T := TX3) (N := 8) (ws' := bh_cw h ad ba c nv km (bc_i C 3 ((C.1.2.1 3) ||| ((nI 1) <<< ((nI v) &&& 31))))) hx hb hts hinX3 tyX3 tyX3_ok nmX3 hown hK hI 0 rfl rfl 3 (by decide) lk_130 rfl rfl rfl rfl rfl (Nat.le_of_ble_eq_true rfl) dX3_silent_36 rfl (fun H locs hI => ?_)
        refine lv_iconst (v := nI 1) hx hb dX3_silent_39 (by decide) ?_
        exact bn_retz hx hb hr hlocks hK (bc_i C 3 ((C.1.2.1 3) ||| ((nI 1) <<< ((nI v) &&& 31)))) hI (by unfold bc_msil; rw [hx1]; exact ⟨rfl, (if_neg c_5).symm⟩) (by decide) dX3_silent_40
    · first | exact absurd c_4 (by decide) | exact absurd (by decide) c_4
set_option maxHeartbeats 4000000 in
set_option maxRecDepth 100000 in
theorem cc_propose (l : Launch) (D : va_G) (c : bh_C) (h : Nat) (ad : Nat → Nat) (ba : Nat → Nat → Nat) (nv km : Nat) (sz : Nat) (C : cS) (x y : Int32) (z : Int64) (ha : C.1.1 15 ≤ 400) (hn : nv ≤ 7) (hk24 : km ≤ 24) : Met l yX3_propose wsX3_propose ({ frames := 2, cells := 0, slots := 0, locals := 51 }) (va_Pc [.ref h, .int (x), .int (y), .long (z)] (bh_prm D c (bh_cw h ad ba c nv km (C)) sz)) (va_Qi (fun (r : Int32) (u : cS) => r = (bc_mpro C nv km x y z).1 ∧ u = (bc_mpro C nv km x y z).2) (fun u t => bh_post D c (bh_cw h ad ba c nv km u) (va_A (bh_cw h ad ba c nv km (C)) sz) t) (va_A (bh_cw h ad ba c nv km (C)) sz)) 0 0 (va_A (bh_cw h ad ba c nv km (C)) sz) := by
  refine Met.ofW (cc := cX3_propose) (maxL := 6) (ret := (some .boolean)) (by decide) rfl ?_
  intro p e s m args below meth c0 s₁ B hml hv
  obtain ⟨rfl, hsz, hP, hK, hD0⟩ := hv
  have hx := B.exec
  have hb := B.bytes
  have hr := B.returns
  have hts := atoms_spec (ws := wsX3_propose) B.pre
  have hown : s.vm.findClass RX3 = some m.cls := findClass_of_methodNamed B.named
  have hlocks := B.notSynchronized
  have hinX1 : ∀ w ∈ wsX10, w ∈ wsX3_propose := fun _ h => List.mem_cons_of_mem _ (List.mem_append_left _ (List.mem_append_left _ (List.mem_append_right _ h)))
  have hinX3 : ∀ w ∈ wsX30, w ∈ wsX3_propose := fun _ h => List.mem_cons_of_mem _ (List.mem_append_left _ (List.mem_append_right _ h))
  have hinX0 : ∀ w ∈ wsX00, w ∈ wsX3_propose := fun _ h => List.mem_cons_of_mem _ (List.mem_append_right _ h)
  have lk_72 : (Cond.fieldLink RX3 72 "BallotHouse$Ballot" "state" "I").before _ s = true := hts _ (by decide +kernel)
  have lk_78 : (Cond.fieldLink RX3 78 "BallotHouse$Ballot" "proposed" "I").before _ s = true := hts _ (by decide +kernel)
  have lk_81 : (Cond.fieldLink RX3 81 "BallotHouse$Ballot" "words" "[J").before _ s = true := hts _ (by decide +kernel)
  have lk_84 : (Cond.fieldLink RX3 84 "BallotHouse$Ballot" "members" "I").before _ s = true := hts _ (by decide +kernel)
  subst hsz
  have hI := bh_start hP hD0
  generalize hAe : va_A (bh_cw h ad ba c nv km (C)) s.heap.size = A at hI ⊢
  have hA : ∀ q : Nat, s.heap.size ≤ q → A q := fun q h => by rw [← hAe]; exact Or.inr h
  clear hP hD0 hAe
  have hl := lv_entry ([.ref h, .int (x), .int (y), .long (z)]) (n := 6) (Nat.le_of_ble_eq_true rfl)
  rw [lg_entry_eq]
  generalize (lg_sl ([.ref h, .int (x), .int (y), .long (z)]) ++ List.replicate (6 - (lg_sl ([.ref h, .int (x), .int (y), .long (z)])).length) Slot.unset).toArray = ls at hl ⊢
  have hl : lv_has ls 6 [(0, .ref h), (1, .int (x)), (2, .int (y)), (3, .long (z))] := hl
  rcases hx1 : bh_ixb x km with _ | b
  · refine lv_aload_n hx hb dX3_propose_0 rfl (lv_at hl 0 rfl) ?_
    refine lv_iload_n hx hb dX3_propose_1 rfl (lv_at hl 1 rfl) ?_
    refine va_csq (bn_roV (As := [.int (x)]) (rest := []) ⟨hx, hb, hml, hown, hts⟩ (cc_findN l D c h ad ba nv km (C) x hx1 hk24) (cwV 1 hts gX3_propose_X3_find rfl rfl rfl (by decide +kernel) ⟨Nat.le_of_ble_eq_true rfl, Nat.le_of_ble_eq_true rfl⟩) hK hI 0 2 rfl rfl rfl rfl hl.1 (Nat.le_of_ble_eq_true rfl) dX3_propose_2 ⟨Nat.le_of_ble_eq_true rfl, Nat.le_of_ble_eq_true rfl⟩) (fun r_1 er_1 => ?_)
    subst er_1
    refine lv_astoreN (lv' := [(5, .null), (0, .ref h), (1, .int (x)), (2, .int (y)), (3, .long (z))]) hx hb dX3_propose_5 hl (by decide) rfl (fun ls hl => ?_)
    refine lv_aloadN hx hb dX3_propose_7 (lv_at hl 0 rfl) ?_
    refine lv_ifnullN (tgt := 37) hx hb dX3_propose_9 (by decide) ?_
    refine lv_iconst (v := nI 0) hx hb dX3_propose_37 (by decide) ?_
    exact bn_retz hx hb hr hlocks hK (C) hI (by unfold bc_mpro; rw [hx1]; exact ⟨rfl, rfl⟩) (by decide) dX3_propose_38
  · obtain ⟨hb1, hb2, rfl⟩ := bh_ixb_some hx1
    refine lv_aload_n hx hb dX3_propose_0 rfl (lv_at hl 0 rfl) ?_
    refine lv_iload_n hx hb dX3_propose_1 rfl (lv_at hl 1 rfl) ?_
    refine va_csq (bn_roV (As := [.int (nI b)]) (rest := []) ⟨hx, hb, hml, hown, hts⟩ (cc_find l D c h ad ba nv km (C) b hb1 hb2 hk24) (cwV 1 hts gX3_propose_X3_find rfl rfl rfl (by decide +kernel) ⟨Nat.le_of_ble_eq_true rfl, Nat.le_of_ble_eq_true rfl⟩) hK hI 0 2 rfl rfl rfl rfl hl.1 (Nat.le_of_ble_eq_true rfl) dX3_propose_2 ⟨Nat.le_of_ble_eq_true rfl, Nat.le_of_ble_eq_true rfl⟩) (fun r_2 er_2 => ?_)
    subst er_2
    refine lv_astore (lv' := [(5, .ref (ba b 0)), (0, .ref h), (1, .int (nI b)), (2, .int (y)), (3, .long (z))]) hx hb dX3_propose_5 hl (by decide) rfl (fun ls hl => ?_)
    refine lv_aload hx hb dX3_propose_7 (lv_at hl 0 rfl) ?_
    refine lv_ifnull hx hb dX3_propose_9 ?_
    rcases hx2 : bh_ix y 8 with _ | q
    · refine lv_iload_n hx hb dX3_propose_12 rfl (lv_at hl 3 rfl) ?_
      refine vp_callSi (bn_roS (As := [.int (y)]) (rest := []) ⟨hx, hb, hml, hown, hts⟩ (cc_isPlace l (y)) (va_cwS 1 hts gX3_propose_X3_isPlace rfl rfl rfl (by decide +kernel) ⟨Nat.le_of_ble_eq_true rfl, Nat.le_of_ble_eq_true rfl⟩) rfl hl.1 (Nat.le_of_ble_eq_true rfl) dX3_propose_13 ⟨Nat.le_of_ble_eq_true rfl, Nat.le_of_ble_eq_true rfl⟩) (fun r_3 er_3 => ?_)
      obtain rfl : r_3 = nI 0 := by rw [er_3, hx2]; rfl
      refine lv_if_eq (tgt := 37) hx hb dX3_propose_16 (by decide) (fun c_4 => ?_) (fun c_4 => ?_)
      · refine lv_iconst (v := nI 0) hx hb dX3_propose_37 (by decide) ?_
        exact bn_retz hx hb hr hlocks hK (C) hI (by unfold bc_mpro; rw [hx1]; dsimp only; rw [hx2]; exact ⟨rfl, rfl⟩) (by decide) dX3_propose_38
      · first | exact absurd c_4 (by decide) | exact absurd (by decide) c_4
    · obtain ⟨hq, rfl⟩ := bh_ix_some hx2
      refine lv_iload_n hx hb dX3_propose_12 rfl (lv_at hl 3 rfl) ?_
      refine vp_callSi (bn_roS (As := [.int (nI q)]) (rest := []) ⟨hx, hb, hml, hown, hts⟩ (cc_isPlace l (nI q)) (va_cwS 1 hts gX3_propose_X3_isPlace rfl rfl rfl (by decide +kernel) ⟨Nat.le_of_ble_eq_true rfl, Nat.le_of_ble_eq_true rfl⟩) rfl hl.1 (Nat.le_of_ble_eq_true rfl) dX3_propose_13 ⟨Nat.le_of_ble_eq_true rfl, Nat.le_of_ble_eq_true rfl⟩) (fun r_5 er_5 => ?_)
      obtain rfl : r_5 = nI 1 := by rw [er_5, hx2]; rfl
      refine lv_if_eq (tgt := 37) hx hb dX3_propose_16 (by decide) (fun c_6 => ?_) (fun c_6 => ?_)
      · first | exact absurd c_6 (by decide) | exact absurd (by decide) c_6
      · refine lv_aload hx hb dX3_propose_19 (lv_at hl 0 rfl) ?_
        refine bn_get (ci := 1) (v := .int (C.2.1 6 b)) (C := RX1) (T := TX1) (N := 14) hx hb hts hinX1 hown hK hI (10 + (5 * (b - 1) + 0)) ((bh_cw_b hb1 hb2 0 (by decide)).trans rfl) rfl 6 (by decide) lk_72 rfl (rfl) dX3_propose_21 ?_
        refine lv_iconst (v := nI 4) hx hb dX3_propose_24 (by decide) ?_
        refine lv_icmp_ne (tgt := 37) hx hb dX3_propose_25 (by decide) (fun c_7 => ?_) (fun c_7 => ?_)
        · refine lv_iconst (v := nI 0) hx hb dX3_propose_37 (by decide) ?_
          exact bn_retz hx hb hr hlocks hK (C) hI (by unfold bc_mpro; rw [hx1]; dsimp only; rw [hx2]; dsimp only; rw [if_neg (fun w => c_7 w.1)]; exact ⟨rfl, rfl⟩) (by decide) dX3_propose_38
        · refine lv_aload hx hb dX3_propose_28 (lv_at hl 0 rfl) ?_
          refine lv_iload_n hx hb dX3_propose_30 rfl (lv_at hl 3 rfl) ?_
          refine vp_callSi (bn_roV (As := [.int (nI q)]) (rest := []) ⟨hx, hb, hml, hown, hts⟩ (cc_hasWord l D c h ad ba nv km C b hb1 hb2 q) (cwV 1 hts gX3_propose_X1_hasWord rfl rfl rfl (by decide +kernel) ⟨Nat.le_of_ble_eq_true rfl, Nat.le_of_ble_eq_true rfl⟩) hK hI (10 + (5 * (b - 1) + 0)) 1 rfl rfl ((bh_cw_b hb1 hb2 0 (by decide)).trans rfl) rfl hl.1 (Nat.le_of_ble_eq_true rfl) dX3_propose_31 ⟨Nat.le_of_ble_eq_true rfl, Nat.le_of_ble_eq_true rfl⟩) (fun r_8 er_8 => ?_)
          subst er_8
          refine lv_if_eq (tgt := 39) hx hb dX3_propose_34 (by decide) (fun c_9 => ?_) (fun c_9 => ?_)
          · refine lv_aload hx hb dX3_propose_39 (lv_at hl 0 rfl) ?_
            refine lv_dup hx hb dX3_propose_41 rfl ?_
            refine bn_get (ci := 1) (v := .int (C.2.1 9 b)) (C := RX1) (T := TX1) (N := 14) hx hb hts hinX1 hown hK hI (10 + (5 * (b - 1) + 0)) ((bh_cw_b hb1 hb2 0 (by decide)).trans rfl) rfl 9 (by decide) lk_78 rfl (rfl) dX3_propose_42 ?_
            refine lv_iconst (v := nI 1) hx hb dX3_propose_45 (by decide) ?_
            refine lv_iload_n hx hb dX3_propose_46 rfl (lv_at hl 3 rfl) ?_
            refine lv_ishl hx hb dX3_propose_47 ?_
            refine lv_ior hx hb dX3_propose_48 ?_
            refine bn_put (ci := 1) (v := .int ((C.2.1 9 b) ||| ((nI 1) <<< ((nI q) &&& 31)))) (ty := .int) (C := RX1) (T := TX1) (N := 14) (ws' := bh_cw h ad ba c nv km (bc_f C 9 b ((C.2.1 9 b) ||| ((nI 1) <<< ((nI q) &&& 31))))) hx hb hts hinX1 tyX1 tyX1_ok nmX1 hown hK hI (10 + (5 * (b - 1) + 0)) ((bh_cw_b hb1 hb2 0 (by decide)).trans rfl) rfl 9 (by decide) lk_78 rfl rfl rfl rfl rfl (Nat.le_of_ble_eq_true rfl) dX3_propose_49 (bh_cw_f 9 _ (by decide) hb1 hb2) (fun H locs hI => ?_)
            refine lv_aload hx hb dX3_propose_52 (lv_at hl 0 rfl) ?_
            refine bn_get (ci := 1) (v := .ref (ba b 2)) (C := RX1) (T := TX1) (N := 14) hx hb hts hinX1 hown hK hI (10 + (5 * (b - 1) + 0)) ((bh_cw_b hb1 hb2 0 (by decide)).trans rfl) rfl 11 (by decide) lk_81 rfl (rfl) dX3_propose_54 ?_
            refine lv_iload_n hx hb dX3_propose_57 rfl (lv_at hl 3 rfl) ?_
            refine lv_lload_n hx hb dX3_propose_58 rfl (lv_at hl 4 rfl) ?_
            refine bn_last (n := 8) (ws' := bh_cw h ad ba c nv km (bc_w (bc_f C 9 b ((C.2.1 9 b) ||| ((nI 1) <<< ((nI q) &&& 31)))) b q z)) hx hb hK hI (10 + (5 * (b - 1) + 2)) 1 ((bh_cw_b hb1 hb2 2 (by decide)).trans rfl) rfl (by omega) (by first | decide | omega) dX3_propose_59 (bh_cw_w _ _ hb1 hb2) (fun H locs hI => ?_)
            refine lv_aload_n hx hb dX3_propose_60 rfl (lv_at hl 1 rfl) ?_
            refine lv_aload hx hb dX3_propose_61 (lv_at hl 0 rfl) ?_
            refine bn_get (ci := 1) (v := .int (C.2.1 1 b)) (C := RX1) (T := TX1) (N := 14) hx hb hts hinX1 hown hK hI (10 + (5 * (b - 1) + 0)) ((bh_cw_b hb1 hb2 0 (by decide)).trans rfl) rfl 1 (by decide) lk_84 rfl (rfl) dX3_propose_63 ?_
            refine lv_iconst (v := nI 4) hx hb dX3_propose_66 (by decide) ?_
            refine lv_aload hx hb dX3_propose_67 (lv_at hl 0 rfl) ?_
            refine lv_iload_n hx hb dX3_propose_69 rfl (lv_at hl 3 rfl) ?_
            refine bn_mui (bn_muV (As := [.int (C.2.1 1 b), .int (nI 4), .ref (ba b 0), .int (nI q)]) (rest := []) ⟨hx, hb, hml, hown, hts⟩ (cc_sendToEach l D c h ad ba nv km _ (bc_w (bc_f C 9 b ((C.2.1 9 b) ||| ((nI 1) <<< ((nI q) &&& 31)))) b q z) (C.2.1 1 b) (nI 4) b hb1 hb2 (nI q) (ha) hn) (cwV 4 hts gX3_propose_X3_sendToEach rfl rfl rfl (by decide +kernel) ⟨Nat.le_of_ble_eq_true rfl, Nat.le_of_ble_eq_true rfl⟩) hK hI 0 2 rfl rfl rfl rfl hl.1 (Nat.le_of_ble_eq_true rfl) dX3_propose_70 ⟨Nat.le_of_ble_eq_true rfl, Nat.le_of_ble_eq_true rfl⟩) hI hA (fun r_10 u_10 H locs eu_10 hI => ?_)
            obtain ⟨er_10, eu_10⟩ := eu_10
            subst er_10
            subst eu_10
            refine lv_pop hx hb dX3_propose_73 rfl ?_
            refine lv_iconst (v := nI 1) hx hb dX3_propose_74 (by decide) ?_
            exact bn_retz hx hb hr hlocks hK (bc_seL (bc_w (bc_f C 9 b ((C.2.1 9 b) ||| ((nI 1) <<< ((nI q) &&& 31)))) b q z) (C.2.1 1 b) (nI 4) b (nI q) nv) hI (by unfold bc_mpro; rw [hx1]; dsimp only; rw [hx2]; dsimp only; rw [if_pos ⟨c_7, bh_tf_eq c_9⟩]; exact ⟨rfl, rfl⟩) (by decide) dX3_propose_75
          · refine lv_iconst (v := nI 0) hx hb dX3_propose_37 (by decide) ?_
            exact bn_retz hx hb hr hlocks hK (C) hI (by unfold bc_mpro; rw [hx1]; dsimp only; rw [hx2]; dsimp only; rw [if_neg (fun w => by rw [bh_tf_ne c_9] at w; exact absurd w.2 (by decide))]; exact ⟨rfl, rfl⟩) (by decide) dX3_propose_38
set_option maxHeartbeats 4000000 in
set_option maxRecDepth 100000 in
theorem cc_again (l : Launch) (D : va_G) (c : bh_C) (h : Nat) (ad : Nat → Nat) (ba : Nat → Nat → Nat) (nv km : Nat) (sz : Nat) (C : cS) (x : Int32) (ha : C.1.1 15 ≤ 400) (hn : nv ≤ 7) (hk24 : km ≤ 24) : Met l yX3_again wsX3_again ({ frames := 3, cells := 0, slots := 0, locals := 74 }) (va_Pc [.ref h, .int (x)] (bh_prm D c (bh_cw h ad ba c nv km (C)) sz)) (va_Qi (fun (r : Int32) (u : cS) => r = (bc_magn C nv km x).1 ∧ u = (bc_magn C nv km x).2) (fun u t => bh_post D c (bh_cw h ad ba c nv km u) (va_A (bh_cw h ad ba c nv km (C)) sz) t) (va_A (bh_cw h ad ba c nv km (C)) sz)) 0 0 (va_A (bh_cw h ad ba c nv km (C)) sz) := by
  refine Met.ofW (cc := cX3_again) (maxL := 3) (ret := (some .int)) (by decide) rfl ?_
  intro p e s m args below meth c0 s₁ B hml hv
  obtain ⟨rfl, hsz, hP, hK, hD0⟩ := hv
  have hx := B.exec
  have hb := B.bytes
  have hr := B.returns
  have hts := atoms_spec (ws := wsX3_again) B.pre
  have hown : s.vm.findClass RX3 = some m.cls := findClass_of_methodNamed B.named
  have hlocks := B.notSynchronized
  have hinX1 : ∀ w ∈ wsX10, w ∈ wsX3_again := fun _ h => List.mem_cons_of_mem _ (List.mem_append_left _ (List.mem_append_left _ (List.mem_append_right _ h)))
  have hinX3 : ∀ w ∈ wsX30, w ∈ wsX3_again := fun _ h => List.mem_cons_of_mem _ (List.mem_append_left _ (List.mem_append_right _ h))
  have hinX0 : ∀ w ∈ wsX00, w ∈ wsX3_again := fun _ h => List.mem_cons_of_mem _ (List.mem_append_right _ h)
  have lk_39 : (Cond.fieldLink RX3 39 "BallotHouse" "letters" "LBallotHouse$Air;").before _ s = true := hts _ (by decide +kernel)
  have lk_72 : (Cond.fieldLink RX3 72 "BallotHouse$Ballot" "state" "I").before _ s = true := hts _ (by decide +kernel)
  have lk_91 : (Cond.fieldLink RX3 91 "BallotHouse$Ballot" "number" "I").before _ s = true := hts _ (by decide +kernel)
  have lk_94 : (Cond.fieldLink RX3 94 "BallotHouse$Ballot" "readers" "I").before _ s = true := hts _ (by decide +kernel)
  have lk_97 : (Cond.fieldLink RX3 97 "BallotHouse$Ballot" "readAnswers" "I").before _ s = true := hts _ (by decide +kernel)
  subst hsz
  have hI := bh_start hP hD0
  generalize hAe : va_A (bh_cw h ad ba c nv km (C)) s.heap.size = A at hI ⊢
  have hA : ∀ q : Nat, s.heap.size ≤ q → A q := fun q h => by rw [← hAe]; exact Or.inr h
  clear hP hD0 hAe
  have hl := lv_entry ([.ref h, .int (x)]) (n := 3) (Nat.le_of_ble_eq_true rfl)
  rw [lg_entry_eq]
  generalize (lg_sl ([.ref h, .int (x)]) ++ List.replicate (3 - (lg_sl ([.ref h, .int (x)])).length) Slot.unset).toArray = ls at hl ⊢
  have hl : lv_has ls 3 [(0, .ref h), (1, .int (x))] := hl
  rcases hx1 : bh_ixb x km with _ | b
  · refine lv_aload_n hx hb dX3_again_0 rfl (lv_at hl 0 rfl) ?_
    refine lv_iload_n hx hb dX3_again_1 rfl (lv_at hl 1 rfl) ?_
    refine va_csq (bn_roV (As := [.int (x)]) (rest := []) ⟨hx, hb, hml, hown, hts⟩ (cc_findN l D c h ad ba nv km (C) x hx1 hk24) (cwV 1 hts gX3_again_X3_find rfl rfl rfl (by decide +kernel) ⟨Nat.le_of_ble_eq_true rfl, Nat.le_of_ble_eq_true rfl⟩) hK hI 0 2 rfl rfl rfl rfl hl.1 (Nat.le_of_ble_eq_true rfl) dX3_again_2 ⟨Nat.le_of_ble_eq_true rfl, Nat.le_of_ble_eq_true rfl⟩) (fun r_1 er_1 => ?_)
    subst er_1
    refine lv_astore_nN (lv' := [(2, .null), (0, .ref h), (1, .int (x))]) hx hb dX3_again_5 rfl hl (by decide) rfl (fun ls hl => ?_)
    refine lv_aload_nN hx hb dX3_again_6 rfl (lv_at hl 0 rfl) ?_
    refine lv_ifnonnullN hx hb dX3_again_7 ?_
    refine lv_iconst (v := -1) hx hb dX3_again_10 (by decide) ?_
    exact bn_reti hx hb hr hlocks hK (C) hI (by unfold bc_magn; rw [hx1]; exact ⟨rfl, rfl⟩) dX3_again_11
  · obtain ⟨hb1, hb2, rfl⟩ := bh_ixb_some hx1
    refine lv_aload_n hx hb dX3_again_0 rfl (lv_at hl 0 rfl) ?_
    refine lv_iload_n hx hb dX3_again_1 rfl (lv_at hl 1 rfl) ?_
    refine va_csq (bn_roV (As := [.int (nI b)]) (rest := []) ⟨hx, hb, hml, hown, hts⟩ (cc_find l D c h ad ba nv km (C) b hb1 hb2 hk24) (cwV 1 hts gX3_again_X3_find rfl rfl rfl (by decide +kernel) ⟨Nat.le_of_ble_eq_true rfl, Nat.le_of_ble_eq_true rfl⟩) hK hI 0 2 rfl rfl rfl rfl hl.1 (Nat.le_of_ble_eq_true rfl) dX3_again_2 ⟨Nat.le_of_ble_eq_true rfl, Nat.le_of_ble_eq_true rfl⟩) (fun r_2 er_2 => ?_)
    subst er_2
    refine lv_astore_n (lv' := [(2, .ref (ba b 0)), (0, .ref h), (1, .int (nI b))]) hx hb dX3_again_5 rfl hl (by decide) rfl (fun ls hl => ?_)
    refine lv_aload_n hx hb dX3_again_6 rfl (lv_at hl 0 rfl) ?_
    refine lv_ifnonnull (tgt := 12) hx hb dX3_again_7 (by decide) ?_
    rcases bh_st4 (C.2.1 6 b) with hs0 | hs1 | hs2 | hs3 | hs9
    · refine lv_aload_n hx hb dX3_again_12 rfl (lv_at hl 0 rfl) ?_
      refine bn_get (ci := 1) (v := .int (nI 0)) (C := RX1) (T := TX1) (N := 14) hx hb hts hinX1 hown hK hI (10 + (5 * (b - 1) + 0)) ((bh_cw_b hb1 hb2 0 (by decide)).trans rfl) rfl 6 (by decide) lk_72 rfl (by show some (Value.int (C.2.1 6 b)) = _; rw [hs0]) dX3_again_13 ?_
      refine lv_tableIn (tgt := 48) hx hb dX3_again_16 (by decide) (by decide) rfl (by decide) ?_
      refine lv_aload_n hx hb dX3_again_48 rfl (lv_at hl 1 rfl) ?_
      refine bn_get (ci := 2) (v := .ref (ad 7)) (C := RX3) (T := TX3) (N := 8) hx hb hts hinX3 hown hK hI 0 rfl rfl 7 (by decide) lk_39 rfl (rfl) dX3_again_49 ?_
      refine lv_iconst (v := nI 1) hx hb dX3_again_52 (by decide) ?_
      refine lv_aload_n hx hb dX3_again_53 rfl (lv_at hl 0 rfl) ?_
      refine bn_get (ci := 1) (v := .int (nI b)) (C := RX1) (T := TX1) (N := 14) hx hb hts hinX1 hown hK hI (10 + (5 * (b - 1) + 0)) ((bh_cw_b hb1 hb2 0 (by decide)).trans rfl) rfl 0 (by decide) lk_91 rfl (rfl) dX3_again_54 ?_
      refine lv_iconst (v := -1) hx hb dX3_again_57 (by decide) ?_
      refine lv_iconst (v := -1) hx hb dX3_again_58 (by decide) ?_
      refine lv_lconst (v := 0) hx hb dX3_again_59 (by decide) ?_
      refine bn_muv (bn_muV (As := [.int (nI 1), .int (nI b), .int (-1), .int (-1), .long (0)]) (rest := []) ⟨hx, hb, hml, hown, hts⟩ (cc_send l D c h ad ba nv km _ (C) (nI 1) (nI b) (-1) (-1) (0) (ha)) (cwV 5 hts gX3_again_X0_send rfl rfl rfl (by decide +kernel) ⟨Nat.le_of_ble_eq_true rfl, Nat.le_of_ble_eq_true rfl⟩) hK hI 4 0 rfl rfl rfl rfl hl.1 (Nat.le_of_ble_eq_true rfl) dX3_again_60 ⟨Nat.le_of_ble_eq_true rfl, Nat.le_of_ble_eq_true rfl⟩) hI hA (fun u_3 H locs eu_3 hI => ?_)
      subst eu_3
      refine lv_iconst (v := nI 1) hx hb dX3_again_63 (by decide) ?_
      exact bn_reti hx hb hr hlocks hK (bc_sd (C) (nI 1) (nI b) (-1) (-1) 0) hI (by unfold bc_magn; rw [hx1]; show _ = (bc_ag C nv b).1 ∧ _ = (bc_ag C nv b).2; unfold bc_ag; rw [if_pos hs0]; exact ⟨rfl, rfl⟩) dX3_again_64
    · refine lv_aload_n hx hb dX3_again_12 rfl (lv_at hl 0 rfl) ?_
      refine bn_get (ci := 1) (v := .int (nI 1)) (C := RX1) (T := TX1) (N := 14) hx hb hts hinX1 hown hK hI (10 + (5 * (b - 1) + 0)) ((bh_cw_b hb1 hb2 0 (by decide)).trans rfl) rfl 6 (by decide) lk_72 rfl (by show some (Value.int (C.2.1 6 b)) = _; rw [hs1]) dX3_again_13 ?_
      refine lv_tableIn (tgt := 65) hx hb dX3_again_16 (by decide) (by decide) rfl (by decide) ?_
      refine lv_aload_n hx hb dX3_again_65 rfl (lv_at hl 1 rfl) ?_
      refine lv_aload_n hx hb dX3_again_66 rfl (lv_at hl 0 rfl) ?_
      refine bn_get (ci := 1) (v := .int (C.2.1 5 b)) (C := RX1) (T := TX1) (N := 14) hx hb hts hinX1 hown hK hI (10 + (5 * (b - 1) + 0)) ((bh_cw_b hb1 hb2 0 (by decide)).trans rfl) rfl 5 (by decide) lk_94 rfl (rfl) dX3_again_67 ?_
      refine lv_aload_n hx hb dX3_again_70 rfl (lv_at hl 0 rfl) ?_
      refine bn_get (ci := 1) (v := .int (C.2.1 7 b)) (C := RX1) (T := TX1) (N := 14) hx hb hts hinX1 hown hK hI (10 + (5 * (b - 1) + 0)) ((bh_cw_b hb1 hb2 0 (by decide)).trans rfl) rfl 7 (by decide) lk_97 rfl (rfl) dX3_again_71 ?_
      refine lv_iconst (v := -1) hx hb dX3_again_74 (by decide) ?_
      refine lv_ixor hx hb dX3_again_75 ?_
      refine lv_iand hx hb dX3_again_76 ?_
      refine lv_iconst (v := nI 2) hx hb dX3_again_77 (by decide) ?_
      refine lv_aload_n hx hb dX3_again_78 rfl (lv_at hl 0 rfl) ?_
      refine lv_iconst (v := -1) hx hb dX3_again_79 (by decide) ?_
      refine bn_mui (bn_muV (As := [.int ((C.2.1 5 b) &&& ((C.2.1 7 b) ^^^ (-1))), .int (nI 2), .ref (ba b 0), .int (-1)]) (rest := []) ⟨hx, hb, hml, hown, hts⟩ (cc_sendToEach l D c h ad ba nv km _ (C) (C.2.1 5 b &&& (C.2.1 7 b ^^^ -1)) (nI 2) b hb1 hb2 (-1) (ha) hn) (cwV 4 hts gX3_again_X3_sendToEach rfl rfl rfl (by decide +kernel) ⟨Nat.le_of_ble_eq_true rfl, Nat.le_of_ble_eq_true rfl⟩) hK hI 0 2 rfl rfl rfl rfl hl.1 (Nat.le_of_ble_eq_true rfl) dX3_again_80 ⟨Nat.le_of_ble_eq_true rfl, Nat.le_of_ble_eq_true rfl⟩) hI hA (fun r_4 u_4 H locs eu_4 hI => ?_)
      obtain ⟨er_4, eu_4⟩ := eu_4
      subst er_4
      subst eu_4
      exact bn_reti hx hb hr hlocks hK (bc_seL (C) (C.2.1 5 b &&& (C.2.1 7 b ^^^ -1)) (nI 2) b (-1) nv) hI (by unfold bc_magn; rw [hx1]; show _ = (bc_ag C nv b).1 ∧ _ = (bc_ag C nv b).2; unfold bc_ag; rw [if_neg (by rw [hs1]; decide), if_pos hs1]; exact ⟨rfl, rfl⟩) dX3_again_83
    · have hn0 : ¬ C.2.1 6 b = nI 0 := by rw [hs2]; decide
      have hn1 : ¬ C.2.1 6 b = nI 1 := by rw [hs2]; decide
      have hn3 : ¬ C.2.1 6 b = nI 3 := by rw [hs2]; decide
      refine lv_aload_n hx hb dX3_again_12 rfl (lv_at hl 0 rfl) ?_
      refine bn_get (ci := 1) (v := .int (nI 2)) (C := RX1) (T := TX1) (N := 14) hx hb hts hinX1 hown hK hI (10 + (5 * (b - 1) + 0)) ((bh_cw_b hb1 hb2 0 (by decide)).trans rfl) rfl 6 (by decide) lk_72 rfl (by show some (Value.int (C.2.1 6 b)) = _; rw [hs2]) dX3_again_13 ?_
      refine lv_tableIn (tgt := 102) hx hb dX3_again_16 (by decide) (by decide) rfl (by decide) ?_
      refine lv_aload_n hx hb dX3_again_102 rfl (lv_at hl 1 rfl) ?_
      refine lv_aload_n hx hb dX3_again_103 rfl (lv_at hl 0 rfl) ?_
      refine bn_mui (bn_muV (As := [.ref (ba b 0)]) (rest := []) ⟨hx, hb, hml, hown, hts⟩ (cc_sendMissingVotes l D c h ad ba nv km _ C b hb1 hb2 ha hn) (cwV 1 hts gX3_again_X3_sendMissingVotes rfl rfl rfl (by decide +kernel) ⟨Nat.le_of_ble_eq_true rfl, Nat.le_of_ble_eq_true rfl⟩) hK hI 0 2 rfl rfl rfl rfl hl.1 (Nat.le_of_ble_eq_true rfl) dX3_again_104 ⟨Nat.le_of_ble_eq_true rfl, Nat.le_of_ble_eq_true rfl⟩) hI hA (fun r_5 u_5 H locs eu_5 hI => ?_)
      obtain ⟨er_5, eu_5⟩ := eu_5
      subst er_5
      subst eu_5
      exact bn_reti hx hb hr hlocks hK ((bc_smL C nv b 8).2) hI (by unfold bc_magn; rw [hx1]; show _ = (bc_ag C nv b).1 ∧ _ = (bc_ag C nv b).2; unfold bc_ag; rw [if_neg hn0, if_neg hn1, if_neg hn3]; exact ⟨rfl, rfl⟩) dX3_again_107
    · refine lv_aload_n hx hb dX3_again_12 rfl (lv_at hl 0 rfl) ?_
      refine bn_get (ci := 1) (v := .int (nI 3)) (C := RX1) (T := TX1) (N := 14) hx hb hts hinX1 hown hK hI (10 + (5 * (b - 1) + 0)) ((bh_cw_b hb1 hb2 0 (by decide)).trans rfl) rfl 6 (by decide) lk_72 rfl (by show some (Value.int (C.2.1 6 b)) = _; rw [hs3]) dX3_again_13 ?_
      refine lv_tableIn (tgt := 84) hx hb dX3_again_16 (by decide) (by decide) rfl (by decide) ?_
      refine lv_aload_n hx hb dX3_again_84 rfl (lv_at hl 1 rfl) ?_
      refine bn_get (ci := 2) (v := .ref (ad 7)) (C := RX3) (T := TX3) (N := 8) hx hb hts hinX3 hown hK hI 0 rfl rfl 7 (by decide) lk_39 rfl (rfl) dX3_again_85 ?_
      refine lv_bipush (v := nI 6) hx hb dX3_again_88 (by decide) ?_
      refine lv_aload_n hx hb dX3_again_90 rfl (lv_at hl 0 rfl) ?_
      refine bn_get (ci := 1) (v := .int (nI b)) (C := RX1) (T := TX1) (N := 14) hx hb hts hinX1 hown hK hI (10 + (5 * (b - 1) + 0)) ((bh_cw_b hb1 hb2 0 (by decide)).trans rfl) rfl 0 (by decide) lk_91 rfl (rfl) dX3_again_91 ?_
      refine lv_iconst (v := -1) hx hb dX3_again_94 (by decide) ?_
      refine lv_iconst (v := -1) hx hb dX3_again_95 (by decide) ?_
      refine lv_lconst (v := 0) hx hb dX3_again_96 (by decide) ?_
      refine bn_muv (bn_muV (As := [.int (nI 6), .int (nI b), .int (-1), .int (-1), .long (0)]) (rest := []) ⟨hx, hb, hml, hown, hts⟩ (cc_send l D c h ad ba nv km _ (C) (nI 6) (nI b) (-1) (-1) (0) (ha)) (cwV 5 hts gX3_again_X0_send rfl rfl rfl (by decide +kernel) ⟨Nat.le_of_ble_eq_true rfl, Nat.le_of_ble_eq_true rfl⟩) hK hI 4 0 rfl rfl rfl rfl hl.1 (Nat.le_of_ble_eq_true rfl) dX3_again_97 ⟨Nat.le_of_ble_eq_true rfl, Nat.le_of_ble_eq_true rfl⟩) hI hA (fun u_6 H locs eu_6 hI => ?_)
      subst eu_6
      refine lv_iconst (v := nI 1) hx hb dX3_again_100 (by decide) ?_
      exact bn_reti hx hb hr hlocks hK (bc_sd (C) (nI 6) (nI b) (-1) (-1) 0) hI (by unfold bc_magn; rw [hx1]; show _ = (bc_ag C nv b).1 ∧ _ = (bc_ag C nv b).2; unfold bc_ag; rw [if_neg (by rw [hs3]; decide), if_neg (by rw [hs3]; decide), if_pos hs3]; exact ⟨rfl, rfl⟩) dX3_again_101
    · have hn0 : ¬ C.2.1 6 b = nI 0 := fun w => by rw [w] at hs9; exact absurd hs9 (by decide)
      have hn1 : ¬ C.2.1 6 b = nI 1 := fun w => by rw [w] at hs9; exact absurd hs9 (by decide)
      have hn3 : ¬ C.2.1 6 b = nI 3 := fun w => by rw [w] at hs9; exact absurd hs9 (by decide)
      refine lv_aload_n hx hb dX3_again_12 rfl (lv_at hl 0 rfl) ?_
      refine bn_get (ci := 1) (v := .int (C.2.1 6 b)) (C := RX1) (T := TX1) (N := 14) hx hb hts hinX1 hown hK hI (10 + (5 * (b - 1) + 0)) ((bh_cw_b hb1 hb2 0 (by decide)).trans rfl) rfl 6 (by decide) lk_72 rfl (rfl) dX3_again_13 ?_
      refine lv_tableOut (tgt := 102) hx hb dX3_again_16 (by have h9 := bh_ix_none hs9; omega) (by decide) ?_
      refine lv_aload_n hx hb dX3_again_102 rfl (lv_at hl 1 rfl) ?_
      refine lv_aload_n hx hb dX3_again_103 rfl (lv_at hl 0 rfl) ?_
      refine bn_mui (bn_muV (As := [.ref (ba b 0)]) (rest := []) ⟨hx, hb, hml, hown, hts⟩ (cc_sendMissingVotes l D c h ad ba nv km _ C b hb1 hb2 ha hn) (cwV 1 hts gX3_again_X3_sendMissingVotes rfl rfl rfl (by decide +kernel) ⟨Nat.le_of_ble_eq_true rfl, Nat.le_of_ble_eq_true rfl⟩) hK hI 0 2 rfl rfl rfl rfl hl.1 (Nat.le_of_ble_eq_true rfl) dX3_again_104 ⟨Nat.le_of_ble_eq_true rfl, Nat.le_of_ble_eq_true rfl⟩) hI hA (fun r_7 u_7 H locs eu_7 hI => ?_)
      obtain ⟨er_7, eu_7⟩ := eu_7
      subst er_7
      subst eu_7
      exact bn_reti hx hb hr hlocks hK ((bc_smL C nv b 8).2) hI (by unfold bc_magn; rw [hx1]; show _ = (bc_ag C nv b).1 ∧ _ = (bc_ag C nv b).2; unfold bc_ag; rw [if_neg hn0, if_neg hn1, if_neg hn3]; exact ⟨rfl, rfl⟩) dX3_again_107
set_option maxHeartbeats 4000000 in
set_option maxRecDepth 100000 in
theorem cc_deliver (l : Launch) (D : va_G) (c : bh_C) (h : Nat) (ad : Nat → Nat) (ba : Nat → Nat → Nat) (nv km : Nat) (sz : Nat) (C : cS) (x : Int32) (ha : C.1.1 15 ≤ 400) (hn : nv ≤ 7) (hk24 : km ≤ 24) (hok : ∀ k, k < C.1.1 15 → bc_lok C nv km k) : Met l yX3_deliver wsX3_deliver ({ frames := 6, cells := 0, slots := 0, locals := 147 }) (va_Pc [.ref h, .int (x)] (bh_prm D c (bh_cw h ad ba c nv km (C)) sz)) (va_Qi (fun (r : Int32) (u : cS) => r = (bc_mdel C nv km x).1 ∧ u = (bc_mdel C nv km x).2) (fun u t => bh_post D c (bh_cw h ad ba c nv km u) (va_A (bh_cw h ad ba c nv km (C)) sz) t) (va_A (bh_cw h ad ba c nv km (C)) sz)) 0 0 (va_A (bh_cw h ad ba c nv km (C)) sz) := by
  refine Met.ofW (cc := cX3_deliver) (maxL := 2) (ret := (some .boolean)) (by decide) rfl ?_
  intro p e s m args below meth c0 s₁ B hml hv
  obtain ⟨rfl, hsz, hP, hK, hD0⟩ := hv
  have hx := B.exec
  have hb := B.bytes
  have hr := B.returns
  have hts := atoms_spec (ws := wsX3_deliver) B.pre
  have hown : s.vm.findClass RX3 = some m.cls := findClass_of_methodNamed B.named
  have hlocks := B.notSynchronized
  have hinX3 : ∀ w ∈ wsX30, w ∈ wsX3_deliver := fun _ h => List.mem_cons_of_mem _ (List.mem_append_left _ (List.mem_append_left _ (List.mem_append_right _ h)))
  have hinX0 : ∀ w ∈ wsX00, w ∈ wsX3_deliver := fun _ h => List.mem_cons_of_mem _ (List.mem_append_left _ (List.mem_append_right _ h))
  have hinX1 : ∀ w ∈ wsX10, w ∈ wsX3_deliver := fun _ h => List.mem_cons_of_mem _ (List.mem_append_right _ h)
  have lk_39 : (Cond.fieldLink RX3 39 "BallotHouse" "letters" "LBallotHouse$Air;").before _ s = true := hts _ (by decide +kernel)
  subst hsz
  have hI := bh_start hP hD0
  generalize hAe : va_A (bh_cw h ad ba c nv km (C)) s.heap.size = A at hI ⊢
  have hA : ∀ q : Nat, s.heap.size ≤ q → A q := fun q h => by rw [← hAe]; exact Or.inr h
  clear hP hD0 hAe
  have hl := lv_entry ([.ref h, .int (x)]) (n := 2) (Nat.le_of_ble_eq_true rfl)
  rw [lg_entry_eq]
  generalize (lg_sl ([.ref h, .int (x)]) ++ List.replicate (2 - (lg_sl ([.ref h, .int (x)])).length) Slot.unset).toArray = ls at hl ⊢
  have hl : lv_has ls 2 [(0, .ref h), (1, .int (x))] := hl
  rcases hx1 : bh_ix x (C.1.1 15) with _ | k
  · refine lv_aload_n hx hb dX3_deliver_0 rfl (lv_at hl 0 rfl) ?_
    refine bn_get (ci := 2) (v := .ref (ad 7)) (C := RX3) (T := TX3) (N := 8) hx hb hts hinX3 hown hK hI 0 rfl rfl 7 (by decide) lk_39 rfl (rfl) dX3_deliver_1 ?_
    refine lv_iload_n hx hb dX3_deliver_4 rfl (lv_at hl 1 rfl) ?_
    refine vp_callSi (bn_roV (As := [.int (x)]) (rest := []) ⟨hx, hb, hml, hown, hts⟩ (cc_has l D c h ad ba nv km (C) (x) ha) (cwV 1 hts gX3_deliver_X0_has rfl rfl rfl (by decide +kernel) ⟨Nat.le_of_ble_eq_true rfl, Nat.le_of_ble_eq_true rfl⟩) hK hI 4 0 rfl rfl rfl rfl hl.1 (Nat.le_of_ble_eq_true rfl) dX3_deliver_5 ⟨Nat.le_of_ble_eq_true rfl, Nat.le_of_ble_eq_true rfl⟩) (fun r_1 er_1 => ?_)
    obtain rfl : r_1 = nI 0 := by rw [er_1, hx1]; rfl
    refine lv_if_eq (tgt := 19) hx hb dX3_deliver_8 (by decide) (fun c_2 => ?_) (fun c_2 => ?_)
    · refine lv_iconst (v := nI 0) hx hb dX3_deliver_19 (by decide) ?_
      exact bn_retz hx hb hr hlocks hK (C) hI (by unfold bc_mdel; rw [hx1]; exact ⟨rfl, rfl⟩) (by decide) dX3_deliver_20
    · first | exact absurd c_2 (by decide) | exact absurd (by decide) c_2
  · obtain ⟨hk, rfl⟩ := bh_ix_some hx1
    refine lv_aload_n hx hb dX3_deliver_0 rfl (lv_at hl 0 rfl) ?_
    rcases hfs : bc_fs C k with _ | _
    · refine bn_get (ci := 2) (v := .ref (ad 7)) (C := RX3) (T := TX3) (N := 8) hx hb hts hinX3 hown hK hI 0 rfl rfl 7 (by decide) lk_39 rfl (rfl) dX3_deliver_1 ?_
      refine lv_iload_n hx hb dX3_deliver_4 rfl (lv_at hl 1 rfl) ?_
      refine vp_callSi (bn_roV (As := [.int (nI k)]) (rest := []) ⟨hx, hb, hml, hown, hts⟩ (cc_has l D c h ad ba nv km (C) (nI k) ha) (cwV 1 hts gX3_deliver_X0_has rfl rfl rfl (by decide +kernel) ⟨Nat.le_of_ble_eq_true rfl, Nat.le_of_ble_eq_true rfl⟩) hK hI 4 0 rfl rfl rfl rfl hl.1 (Nat.le_of_ble_eq_true rfl) dX3_deliver_5 ⟨Nat.le_of_ble_eq_true rfl, Nat.le_of_ble_eq_true rfl⟩) (fun r_3 er_3 => ?_)
      obtain rfl : r_3 = nI 1 := by rw [er_3, hx1]; rfl
      refine lv_if_eq (tgt := 19) hx hb dX3_deliver_8 (by decide) (fun c_4 => ?_) (fun c_4 => ?_)
      · first | exact absurd c_4 (by decide) | exact absurd (by decide) c_4
      · refine lv_aload_n hx hb dX3_deliver_11 rfl (lv_at hl 0 rfl) ?_
        refine lv_iload_n hx hb dX3_deliver_12 rfl (lv_at hl 1 rfl) ?_
        refine vp_callSi (bn_roV (As := [.int (nI k)]) (rest := []) ⟨hx, hb, hml, hown, hts⟩ (cc_isForSilent l D c h ad ba nv km C k (by omega)) (cwV 1 hts gX3_deliver_X3_isForSilent rfl rfl rfl (by decide +kernel) ⟨Nat.le_of_ble_eq_true rfl, Nat.le_of_ble_eq_true rfl⟩) hK hI 0 2 rfl rfl rfl rfl hl.1 (Nat.le_of_ble_eq_true rfl) dX3_deliver_13 ⟨Nat.le_of_ble_eq_true rfl, Nat.le_of_ble_eq_true rfl⟩) (fun r_5 er_5 => ?_)
        rw [hfs] at er_5
        subst er_5
        refine lv_if_eq (tgt := 21) hx hb dX3_deliver_16 (by decide) (fun c_6 => ?_) (fun c_6 => ?_)
        · refine lv_aload_n hx hb dX3_deliver_21 rfl (lv_at hl 0 rfl) ?_
          refine lv_iload_n hx hb dX3_deliver_22 rfl (lv_at hl 1 rfl) ?_
          refine bn_muv (bn_muV (As := [.int (nI k)]) (rest := []) ⟨hx, hb, hml, hown, hts⟩ (cc_handOver l D c h ad ba nv km _ C k (C.1.2.2.1 10 k).toNatClampNeg (C.1.2.2.1 11 k).toNatClampNeg (C.1.2.2.1 12 k).toNatClampNeg (C.1.2.2.1 13 k).toNatClampNeg (C.2.1 4 (C.1.2.2.1 11 k).toNatClampNeg).toNatClampNeg ha hn hk24 hk (hok k hk)) (cwV 1 hts gX3_deliver_X3_handOver rfl rfl rfl (by decide +kernel) ⟨Nat.le_of_ble_eq_true rfl, Nat.le_of_ble_eq_true rfl⟩) hK hI 0 2 rfl rfl rfl rfl hl.1 (Nat.le_of_ble_eq_true rfl) dX3_deliver_23 ⟨Nat.le_of_ble_eq_true rfl, Nat.le_of_ble_eq_true rfl⟩) hI hA (fun u_7 H locs eu_7 hI => ?_)
          subst eu_7
          refine lv_iconst (v := nI 1) hx hb dX3_deliver_26 (by decide) ?_
          exact bn_retz hx hb hr hlocks hK (bc_dlv C nv km k) hI (by unfold bc_mdel; rw [hx1]; dsimp only; rw [if_neg (by rw [hfs]; decide)]; exact ⟨rfl, rfl⟩) (by decide) dX3_deliver_27
        · first | exact absurd c_6 (by decide) | exact absurd (by decide) c_6
    · refine bn_get (ci := 2) (v := .ref (ad 7)) (C := RX3) (T := TX3) (N := 8) hx hb hts hinX3 hown hK hI 0 rfl rfl 7 (by decide) lk_39 rfl (rfl) dX3_deliver_1 ?_
      refine lv_iload_n hx hb dX3_deliver_4 rfl (lv_at hl 1 rfl) ?_
      refine vp_callSi (bn_roV (As := [.int (nI k)]) (rest := []) ⟨hx, hb, hml, hown, hts⟩ (cc_has l D c h ad ba nv km (C) (nI k) ha) (cwV 1 hts gX3_deliver_X0_has rfl rfl rfl (by decide +kernel) ⟨Nat.le_of_ble_eq_true rfl, Nat.le_of_ble_eq_true rfl⟩) hK hI 4 0 rfl rfl rfl rfl hl.1 (Nat.le_of_ble_eq_true rfl) dX3_deliver_5 ⟨Nat.le_of_ble_eq_true rfl, Nat.le_of_ble_eq_true rfl⟩) (fun r_8 er_8 => ?_)
      obtain rfl : r_8 = nI 1 := by rw [er_8, hx1]; rfl
      refine lv_if_eq (tgt := 19) hx hb dX3_deliver_8 (by decide) (fun c_9 => ?_) (fun c_9 => ?_)
      · first | exact absurd c_9 (by decide) | exact absurd (by decide) c_9
      · refine lv_aload_n hx hb dX3_deliver_11 rfl (lv_at hl 0 rfl) ?_
        refine lv_iload_n hx hb dX3_deliver_12 rfl (lv_at hl 1 rfl) ?_
        refine vp_callSi (bn_roV (As := [.int (nI k)]) (rest := []) ⟨hx, hb, hml, hown, hts⟩ (cc_isForSilent l D c h ad ba nv km C k (by omega)) (cwV 1 hts gX3_deliver_X3_isForSilent rfl rfl rfl (by decide +kernel) ⟨Nat.le_of_ble_eq_true rfl, Nat.le_of_ble_eq_true rfl⟩) hK hI 0 2 rfl rfl rfl rfl hl.1 (Nat.le_of_ble_eq_true rfl) dX3_deliver_13 ⟨Nat.le_of_ble_eq_true rfl, Nat.le_of_ble_eq_true rfl⟩) (fun r_10 er_10 => ?_)
        rw [hfs] at er_10
        subst er_10
        refine lv_if_eq (tgt := 21) hx hb dX3_deliver_16 (by decide) (fun c_11 => ?_) (fun c_11 => ?_)
        · first | exact absurd c_11 (by decide) | exact absurd (by decide) c_11
        · refine lv_iconst (v := nI 0) hx hb dX3_deliver_19 (by decide) ?_
          exact bn_retz hx hb hr hlocks hK (C) hI (by unfold bc_mdel; rw [hx1]; dsimp only; rw [if_pos hfs]; exact ⟨rfl, rfl⟩) (by decide) dX3_deliver_20
set_option maxHeartbeats 4000000 in
set_option maxRecDepth 100000 in
theorem cc_settle (l : Launch) (D : va_G) (c : bh_C) (h : Nat) (ad : Nat → Nat) (ba : Nat → Nat → Nat) (nv km : Nat) (sz : Nat) (C : cS) (n : Nat) (hn31 : n < 2 ^ 31) (hn : nv ≤ 7) (hk24 : km ≤ 24) (P : cS → Prop) (hp0 : P C) (hpk : ∀ T, P T → T.1.1 15 ≤ 400 ∧ ∀ k, k < T.1.1 15 → bc_lok T nv km k) (hps : ∀ T k, P T → k < T.1.1 15 → bc_fs T k = false → P (bc_dlv T nv km k)) : Met l yX3_settle wsX3_settle ({ frames := 6, cells := 0, slots := 0, locals := 147 }) (va_Pc [.ref h, .int (nI n)] (bh_prm D c (bh_cw h ad ba c nv km (C)) sz)) (va_Qi (fun (r : Int32) (u : cS) => r = nI (bc_stl nv km C n).1 ∧ u = (bc_stl nv km C n).2) (fun u t => bh_post D c (bh_cw h ad ba c nv km u) (va_A (bh_cw h ad ba c nv km (C)) sz) t) (va_A (bh_cw h ad ba c nv km (C)) sz)) 0 0 (va_A (bh_cw h ad ba c nv km (C)) sz) := by
  refine Met.ofW (cc := cX3_settle) (maxL := 4) (ret := (some .int)) (by decide) rfl ?_
  intro p e s m args below meth c0 s₁ B hml hv
  obtain ⟨rfl, hsz, hP, hK, hD0⟩ := hv
  have hx := B.exec
  have hb := B.bytes
  have hr := B.returns
  have hts := atoms_spec (ws := wsX3_settle) B.pre
  have hown : s.vm.findClass RX3 = some m.cls := findClass_of_methodNamed B.named
  have hlocks := B.notSynchronized
  have hinX3 : ∀ w ∈ wsX30, w ∈ wsX3_settle := fun _ h => List.mem_cons_of_mem _ (List.mem_append_left _ (List.mem_append_left _ (List.mem_append_right _ h)))
  have hinX0 : ∀ w ∈ wsX00, w ∈ wsX3_settle := fun _ h => List.mem_cons_of_mem _ (List.mem_append_left _ (List.mem_append_right _ h))
  have hinX1 : ∀ w ∈ wsX10, w ∈ wsX3_settle := fun _ h => List.mem_cons_of_mem _ (List.mem_append_right _ h)
  subst hsz
  have hI := bh_start hP hD0
  generalize hAe : va_A (bh_cw h ad ba c nv km (C)) s.heap.size = A at hI ⊢
  have hA : ∀ q : Nat, s.heap.size ≤ q → A q := fun q h => by rw [← hAe]; exact Or.inr h
  clear hP hD0 hAe
  have hl := lv_entry ([.ref h, .int (nI n)]) (n := 4) (Nat.le_of_ble_eq_true rfl)
  rw [lg_entry_eq]
  generalize (lg_sl ([.ref h, .int (nI n)]) ++ List.replicate (4 - (lg_sl ([.ref h, .int (nI n)])).length) Slot.unset).toArray = ls at hl ⊢
  have hl : lv_has ls 4 [(0, .ref h), (1, .int (nI n))] := hl
  refine lv_iload_n hx hb dX3_settle_0 rfl (lv_at hl 1 rfl) ?_
  refine lv_if_ge (tgt := 6) hx hb dX3_settle_1 (by decide) (fun c_1 => ?_) (fun c_1 => ?_)
  · refine lv_iconst (v := nI 0) hx hb dX3_settle_6 (by decide) ?_
    refine lv_istore_n (lv' := [(2, .int (nI 0)), (0, .ref h), (1, .int (nI n))]) hx hb dX3_settle_7 rfl hl (by decide) rfl (fun ls hl => ?_)
    refine bh_loop (σ := cS × Nat × Nat) (fun x H locs ls => (fun (Tq : cS) (t : Nat) (m2 : Nat) => P Tq ∧ t + m2 = n ∧ bc_stl nv km C n = (t + (bc_stl nv km Tq m2).1, (bc_stl nv km Tq m2).2) ∧ bh_I D (bh_cw h ad ba c nv km (Tq)) A s.heap H locs ∧ lv_has ls 4 [(2, .int (nI t)), (0, .ref h), (1, .int (nI n))]) x.1 x.2.1 x.2.2) (fun x => (fun (Tq : cS) (t : Nat) (m2 : Nat) => m2) x.1 x.2.1 x.2.2) (fun x H locs ls hx_2 ih_2 => ?_) ((C, 0, n)) _ _ _ ⟨hp0, Nat.zero_add n, by show _ = (0 + _, _); rw [Nat.zero_add], hI, lv_sub hl [0, 1, 2] rfl⟩
    clear hl hI
    obtain ⟨Tq, t, m2⟩ := x
    dsimp only at hx_2
    obtain ⟨hpT, htm, hst, hI, hl⟩ := hx_2
    obtain ⟨hT28, hTl⟩ := hpk Tq hpT
    refine lv_iload_n hx hb dX3_settle_8 rfl (lv_at hl 0 rfl) ?_
    refine lv_iload_n hx hb dX3_settle_9 rfl (lv_at hl 2 rfl) ?_
    refine bn_cmp_ge (tgt := 36) hx hb (by omega) (by omega) dX3_settle_10 (by decide) (fun c_3 => ?_) (fun c_3 => ?_)
    · refine lv_iload_n hx hb dX3_settle_36 rfl (lv_at hl 0 rfl) ?_
      exact bn_reti hx hb hr hlocks hK (Tq) hI (⟨by rw [hst, show m2 = 0 by omega]; rfl, by rw [hst, show m2 = 0 by omega]; rfl⟩) dX3_settle_37
    · rcases hfd : bc_fd Tq with _ | jq
      · refine lv_aload_n hx hb dX3_settle_13 rfl (lv_at hl 1 rfl) ?_
        refine vp_callSi (bn_roV (As := []) (rest := []) ⟨hx, hb, hml, hown, hts⟩ (cc_firstDeliverable l D c h ad ba nv km Tq hT28) (cwV 0 hts gX3_settle_X3_firstDeliverable rfl rfl rfl (by decide +kernel) ⟨Nat.le_of_ble_eq_true rfl, Nat.le_of_ble_eq_true rfl⟩) hK hI 0 2 rfl rfl rfl rfl hl.1 (Nat.le_of_ble_eq_true rfl) dX3_settle_14 ⟨Nat.le_of_ble_eq_true rfl, Nat.le_of_ble_eq_true rfl⟩) (fun r_4 er_4 => ?_)
        rw [hfd] at er_4
        obtain rfl : r_4 = -1 := er_4
        refine lv_istore_n (lv' := [(3, .int (-1)), (2, .int (nI t)), (0, .ref h), (1, .int (nI n))]) hx hb dX3_settle_17 rfl hl (by decide) rfl (fun ls hl => ?_)
        refine lv_iload_n hx hb dX3_settle_18 rfl (lv_at hl 0 rfl) ?_
        refine lv_iconst (v := -1) hx hb dX3_settle_19 (by decide) ?_
        refine lv_icmp_ne (tgt := 25) hx hb dX3_settle_20 (by decide) (fun c_5 => ?_) (fun c_5 => ?_)
        · exact absurd rfl c_5
        · refine lv_iload_n hx hb dX3_settle_23 rfl (lv_at hl 1 rfl) ?_
          exact bn_reti hx hb hr hlocks hK (Tq) hI (⟨by rw [hst, bc_stl_e nv km Tq _ hfd]; rfl, by rw [hst, bc_stl_e nv km Tq _ hfd]⟩) dX3_settle_24
      · obtain ⟨-, hjl, hjf⟩ := bc_ff_in Tq _ _ hfd
        rw [Nat.zero_add] at hjl
        refine lv_aload_n hx hb dX3_settle_13 rfl (lv_at hl 1 rfl) ?_
        refine vp_callSi (bn_roV (As := []) (rest := []) ⟨hx, hb, hml, hown, hts⟩ (cc_firstDeliverable l D c h ad ba nv km Tq hT28) (cwV 0 hts gX3_settle_X3_firstDeliverable rfl rfl rfl (by decide +kernel) ⟨Nat.le_of_ble_eq_true rfl, Nat.le_of_ble_eq_true rfl⟩) hK hI 0 2 rfl rfl rfl rfl hl.1 (Nat.le_of_ble_eq_true rfl) dX3_settle_14 ⟨Nat.le_of_ble_eq_true rfl, Nat.le_of_ble_eq_true rfl⟩) (fun r_6 er_6 => ?_)
        rw [hfd] at er_6
        obtain rfl : r_6 = nI jq := er_6
        refine lv_istore_n (lv' := [(3, .int (nI jq)), (2, .int (nI t)), (0, .ref h), (1, .int (nI n))]) hx hb dX3_settle_17 rfl hl (by decide) rfl (fun ls hl => ?_)
        refine lv_iload_n hx hb dX3_settle_18 rfl (lv_at hl 0 rfl) ?_
        refine lv_iconst (v := -1) hx hb dX3_settle_19 (by decide) ?_
        refine lv_icmp_ne (tgt := 25) hx hb dX3_settle_20 (by decide) (fun c_7 => ?_) (fun c_7 => ?_)
        · refine lv_aload_n hx hb dX3_settle_25 rfl (lv_at hl 2 rfl) ?_
          refine lv_iload_n hx hb dX3_settle_26 rfl (lv_at hl 0 rfl) ?_
          refine bn_muv (bn_muV (As := [.int (nI jq)]) (rest := []) ⟨hx, hb, hml, hown, hts⟩ (cc_handOver l D c h ad ba nv km _ Tq jq (Tq.1.2.2.1 10 jq).toNatClampNeg (Tq.1.2.2.1 11 jq).toNatClampNeg (Tq.1.2.2.1 12 jq).toNatClampNeg (Tq.1.2.2.1 13 jq).toNatClampNeg (Tq.2.1 4 (Tq.1.2.2.1 11 jq).toNatClampNeg).toNatClampNeg hT28 hn hk24 hjl (hTl jq hjl)) (cwV 1 hts gX3_settle_X3_handOver rfl rfl rfl (by decide +kernel) ⟨Nat.le_of_ble_eq_true rfl, Nat.le_of_ble_eq_true rfl⟩) hK hI 0 2 rfl rfl rfl rfl hl.1 (Nat.le_of_ble_eq_true rfl) dX3_settle_27 ⟨Nat.le_of_ble_eq_true rfl, Nat.le_of_ble_eq_true rfl⟩) hI hA (fun u_8 H locs eu_8 hI => ?_)
          subst eu_8
          refine lv_iinc (v := nI (t + 1)) (lv' := [(2, .int (nI (t + 1))), (3, .int (nI jq)), (0, .ref h), (1, .int (nI n))]) hx hb dX3_settle_30 hl (k := 1) rfl (nI_1 _) (by decide) rfl (fun ls hl => ?_)
          refine lv_goto (tgt := 8) hx hb dX3_settle_33 (by decide) ?_
          exact ih_2 ((bc_dlv Tq nv km jq, t + 1, m2 - 1)) _ _ _ ⟨hps Tq jq hpT hjl hjf, by show t + 1 + (m2 - 1) = n; omega, bc_stl_n hst (by omega) hfd, hI, lv_sub hl [0, 2, 3] rfl⟩ (by show m2 - 1 < m2; omega)
        · exact absurd c_7 (bh_nI_m1 (by omega))
  · exact absurd (nI_pos' (by omega)) c_1
set_option maxHeartbeats 4000000 in
set_option maxRecDepth 100000 in
theorem cc_settleN (l : Launch) (D : va_G) (c : bh_C) (h : Nat) (ad : Nat → Nat) (ba : Nat → Nat → Nat) (nv km : Nat) (sz : Nat) (C : cS) (x : Int32) (hx0 : x < 0) : Met l yX3_settle wsX3_settle ({ frames := 6, cells := 0, slots := 0, locals := 147 }) (va_Pc [.ref h, .int (x)] (bh_prm D c (bh_cw h ad ba c nv km (C)) sz)) (va_Qi (fun (r : Int32) (u : cS) => r = -1 ∧ u = C) (fun u t => bh_post D c (bh_cw h ad ba c nv km u) (va_A (bh_cw h ad ba c nv km (C)) sz) t) (va_A (bh_cw h ad ba c nv km (C)) sz)) 0 0 (va_A (bh_cw h ad ba c nv km (C)) sz) := by
  refine Met.ofW (cc := cX3_settle) (maxL := 4) (ret := (some .int)) (by decide) rfl ?_
  intro p e s m args below meth c0 s₁ B hml hv
  obtain ⟨rfl, hsz, hP, hK, hD0⟩ := hv
  have hx := B.exec
  have hb := B.bytes
  have hr := B.returns
  have hts := atoms_spec (ws := wsX3_settle) B.pre
  have hown : s.vm.findClass RX3 = some m.cls := findClass_of_methodNamed B.named
  have hlocks := B.notSynchronized
  have hinX3 : ∀ w ∈ wsX30, w ∈ wsX3_settle := fun _ h => List.mem_cons_of_mem _ (List.mem_append_left _ (List.mem_append_left _ (List.mem_append_right _ h)))
  have hinX0 : ∀ w ∈ wsX00, w ∈ wsX3_settle := fun _ h => List.mem_cons_of_mem _ (List.mem_append_left _ (List.mem_append_right _ h))
  have hinX1 : ∀ w ∈ wsX10, w ∈ wsX3_settle := fun _ h => List.mem_cons_of_mem _ (List.mem_append_right _ h)
  subst hsz
  have hI := bh_start hP hD0
  generalize hAe : va_A (bh_cw h ad ba c nv km (C)) s.heap.size = A at hI ⊢
  have hA : ∀ q : Nat, s.heap.size ≤ q → A q := fun q h => by rw [← hAe]; exact Or.inr h
  clear hP hD0 hAe
  have hl := lv_entry ([.ref h, .int (x)]) (n := 4) (Nat.le_of_ble_eq_true rfl)
  rw [lg_entry_eq]
  generalize (lg_sl ([.ref h, .int (x)]) ++ List.replicate (4 - (lg_sl ([.ref h, .int (x)])).length) Slot.unset).toArray = ls at hl ⊢
  have hl : lv_has ls 4 [(0, .ref h), (1, .int (x))] := hl
  refine lv_iload_n hx hb dX3_settle_0 rfl (lv_at hl 1 rfl) ?_
  refine lv_if_ge (tgt := 6) hx hb dX3_settle_1 (by decide) (fun c_1 => ?_) (fun c_1 => ?_)
  · exact absurd hx0 (Int32.not_lt.mpr c_1)
  · refine lv_iconst (v := -1) hx hb dX3_settle_4 (by decide) ?_
    exact bn_reti hx hb hr hlocks hK (C) hI (⟨rfl, rfl⟩) dX3_settle_5
