set_option maxHeartbeats 4000000 in
set_option maxRecDepth 100000 in
theorem cm_promise (l : Launch) (D : va_G) (c : bh_C) (h : Nat) (ad : Nat → Nat) (S : mS) (x : Int32) (hn : S.1 0 ≤ 7) : Met l yX4_promise wsX4_promise ({ frames := 1, cells := 0, slots := 0, locals := 21 }) (va_Pc [.ref h, .int (x)] (bh_pre D c (bh_mw h ad c (S)))) (vp_Si (fun r => r = bh_mprom S x)) 0 0 (fun _ => False) := by
  refine Met.ofW (cc := cX4_promise) (maxL := 2) (ret := (some .int)) (by decide) rfl ?_
  intro p e s m args below meth c0 s₁ B hml hv
  obtain ⟨rfl, hP, hK, hD0⟩ := hv
  have hx := B.exec
  have hb := B.bytes
  have hr := B.returns
  have hts := atoms_spec (ws := wsX4_promise) B.pre
  have hown : s.vm.findClass RX4 = some m.cls := findClass_of_methodNamed B.named
  have hlocks := B.notSynchronized
  have hinX4 : ∀ w ∈ wsX40, w ∈ wsX4_promise := fun _ h => List.mem_cons_of_mem _ (List.mem_append_right _ h)
  have lk_7 : (Cond.fieldLink RX4 7 "BallotHouseModel" "promise" "[I").before _ s = true := hts _ (by decide +kernel)
  have hI : bh_I D (bh_mw h ad c (S)) (fun _ => True) s.heap s.heap [] := ⟨hP, hD0, va_S.rf⟩
  have hl := lv_entry ([.ref h, .int (x)]) (n := 2) (Nat.le_of_ble_eq_true rfl)
  rw [lg_entry_eq]
  generalize (lg_sl ([.ref h, .int (x)]) ++ List.replicate (2 - (lg_sl ([.ref h, .int (x)])).length) Slot.unset).toArray = ls at hl ⊢
  have hl : lv_has ls 2 [(0, .ref h), (1, .int (x))] := hl
  rcases hx1 : bh_ix x (S.1 0) with _ | v
  · refine lv_aload_n hx hb dX4_promise_0 rfl (lv_at hl 0 rfl) ?_
    refine lv_iload_n hx hb dX4_promise_1 rfl (lv_at hl 1 rfl) ?_
    refine vp_callSi (bn_roV (As := [.int (x)]) (rest := []) ⟨hx, hb, hml, hown, hts⟩ (cm_isVoter l D c h ad S (x) hn) (cwV 1 hts gX4_promise_X4_isVoter rfl rfl rfl (by decide +kernel) ⟨Nat.le_of_ble_eq_true rfl, Nat.le_of_ble_eq_true rfl⟩) hK hI 0 3 rfl rfl rfl rfl hl.1 (Nat.le_of_ble_eq_true rfl) dX4_promise_2 ⟨Nat.le_of_ble_eq_true rfl, Nat.le_of_ble_eq_true rfl⟩) (fun r_1 er_1 => ?_)
    obtain rfl : r_1 = nI 0 := by rw [er_1, hx1]; rfl
    refine lv_if_eq (tgt := 17) hx hb dX4_promise_5 (by decide) (fun c_2 => ?_) (fun c_2 => ?_)
    · refine lv_iconst (v := -1) hx hb dX4_promise_17 (by decide) ?_
      exact bn_roti hx hb hr hlocks (by unfold bh_mprom; rw [hx1]) dX4_promise_18
    · first | exact absurd c_2 (by decide) | exact absurd (by decide) c_2
  · obtain ⟨hv, rfl⟩ := bh_ix_some hx1
    refine lv_aload_n hx hb dX4_promise_0 rfl (lv_at hl 0 rfl) ?_
    refine lv_iload_n hx hb dX4_promise_1 rfl (lv_at hl 1 rfl) ?_
    refine vp_callSi (bn_roV (As := [.int (nI v)]) (rest := []) ⟨hx, hb, hml, hown, hts⟩ (cm_isVoter l D c h ad S (nI v) hn) (cwV 1 hts gX4_promise_X4_isVoter rfl rfl rfl (by decide +kernel) ⟨Nat.le_of_ble_eq_true rfl, Nat.le_of_ble_eq_true rfl⟩) hK hI 0 3 rfl rfl rfl rfl hl.1 (Nat.le_of_ble_eq_true rfl) dX4_promise_2 ⟨Nat.le_of_ble_eq_true rfl, Nat.le_of_ble_eq_true rfl⟩) (fun r_3 er_3 => ?_)
    obtain rfl : r_3 = nI 1 := by rw [er_3, hx1]; rfl
    refine lv_if_eq (tgt := 17) hx hb dX4_promise_5 (by decide) (fun c_4 => ?_) (fun c_4 => ?_)
    · first | exact absurd c_4 (by decide) | exact absurd (by decide) c_4
    · refine lv_aload_n hx hb dX4_promise_8 rfl (lv_at hl 0 rfl) ?_
      refine bn_get (ci := 3) (v := .ref (ad 1)) (C := RX4) (T := TX4) (N := 31) hx hb hts hinX4 hown hK hI 0 rfl rfl 1 (by decide) lk_7 rfl (rfl) dX4_promise_9 ?_
      refine lv_iload_n hx hb dX4_promise_12 rfl (lv_at hl 1 rfl) ?_
      refine bn_iald (n := 7) (v := S.2.2.1 1 v) hx hb hK hI 1 0 rfl rfl (by omega) (by first | decide | omega) (rfl) dX4_promise_13 ?_
      refine lv_goto (tgt := 18) hx hb dX4_promise_14 (by decide) ?_
      exact bn_roti hx hb hr hlocks (by unfold bh_mprom; rw [hx1]) dX4_promise_18
set_option maxHeartbeats 4000000 in
set_option maxRecDepth 100000 in
theorem cm_vote (l : Launch) (D : va_G) (c : bh_C) (h : Nat) (ad : Nat → Nat) (S : mS) (x y : Int32) (hn : S.1 0 ≤ 7) : Met l yX4_vote wsX4_vote ({ frames := 1, cells := 0, slots := 0, locals := 21 }) (va_Pc [.ref h, .int (x), .int (y)] (bh_pre D c (bh_mw h ad c (S)))) (vp_Si (fun r => r = bh_mvote S x y)) 0 0 (fun _ => False) := by
  refine Met.ofW (cc := cX4_vote) (maxL := 3) (ret := (some .int)) (by decide) rfl ?_
  intro p e s m args below meth c0 s₁ B hml hv
  obtain ⟨rfl, hP, hK, hD0⟩ := hv
  have hx := B.exec
  have hb := B.bytes
  have hr := B.returns
  have hts := atoms_spec (ws := wsX4_vote) B.pre
  have hown : s.vm.findClass RX4 = some m.cls := findClass_of_methodNamed B.named
  have hlocks := B.notSynchronized
  have hinX4 : ∀ w ∈ wsX40, w ∈ wsX4_vote := fun _ h => List.mem_cons_of_mem _ (List.mem_append_right _ h)
  have lk_13 : (Cond.fieldLink RX4 13 "BallotHouseModel" "vote" "[I").before _ s = true := hts _ (by decide +kernel)
  have hI : bh_I D (bh_mw h ad c (S)) (fun _ => True) s.heap s.heap [] := ⟨hP, hD0, va_S.rf⟩
  have hl := lv_entry ([.ref h, .int (x), .int (y)]) (n := 3) (Nat.le_of_ble_eq_true rfl)
  rw [lg_entry_eq]
  generalize (lg_sl ([.ref h, .int (x), .int (y)]) ++ List.replicate (3 - (lg_sl ([.ref h, .int (x), .int (y)])).length) Slot.unset).toArray = ls at hl ⊢
  have hl : lv_has ls 3 [(0, .ref h), (1, .int (x)), (2, .int (y))] := hl
  rcases hx1 : bh_ix x (S.1 0) with _ | v
  · refine lv_aload_n hx hb dX4_vote_0 rfl (lv_at hl 0 rfl) ?_
    refine lv_iload_n hx hb dX4_vote_1 rfl (lv_at hl 1 rfl) ?_
    refine vp_callSi (bn_roV (As := [.int (x)]) (rest := []) ⟨hx, hb, hml, hown, hts⟩ (cm_isVoter l D c h ad S (x) hn) (cwV 1 hts gX4_vote_X4_isVoter rfl rfl rfl (by decide +kernel) ⟨Nat.le_of_ble_eq_true rfl, Nat.le_of_ble_eq_true rfl⟩) hK hI 0 3 rfl rfl rfl rfl hl.1 (Nat.le_of_ble_eq_true rfl) dX4_vote_2 ⟨Nat.le_of_ble_eq_true rfl, Nat.le_of_ble_eq_true rfl⟩) (fun r_1 er_1 => ?_)
    obtain rfl : r_1 = nI 0 := by rw [er_1, hx1]; rfl
    refine lv_if_eq (tgt := 29) hx hb dX4_vote_5 (by decide) (fun c_2 => ?_) (fun c_2 => ?_)
    · refine lv_iconst (v := -1) hx hb dX4_vote_29 (by decide) ?_
      exact bn_roti hx hb hr hlocks (by unfold bh_mvote; rw [hx1]) dX4_vote_30
    · first | exact absurd c_2 (by decide) | exact absurd (by decide) c_2
  · obtain ⟨hv, rfl⟩ := bh_ix_some hx1
    refine lv_aload_n hx hb dX4_vote_0 rfl (lv_at hl 0 rfl) ?_
    refine lv_iload_n hx hb dX4_vote_1 rfl (lv_at hl 1 rfl) ?_
    refine vp_callSi (bn_roV (As := [.int (nI v)]) (rest := []) ⟨hx, hb, hml, hown, hts⟩ (cm_isVoter l D c h ad S (nI v) hn) (cwV 1 hts gX4_vote_X4_isVoter rfl rfl rfl (by decide +kernel) ⟨Nat.le_of_ble_eq_true rfl, Nat.le_of_ble_eq_true rfl⟩) hK hI 0 3 rfl rfl rfl rfl hl.1 (Nat.le_of_ble_eq_true rfl) dX4_vote_2 ⟨Nat.le_of_ble_eq_true rfl, Nat.le_of_ble_eq_true rfl⟩) (fun r_3 er_3 => ?_)
    obtain rfl : r_3 = nI 1 := by rw [er_3, hx1]; rfl
    refine lv_if_eq (tgt := 29) hx hb dX4_vote_5 (by decide) (fun c_4 => ?_) (fun c_4 => ?_)
    · first | exact absurd c_4 (by decide) | exact absurd (by decide) c_4
    · rcases hx2 : bh_ix y 8 with _ | q
      · refine lv_iload_n hx hb dX4_vote_8 rfl (lv_at hl 2 rfl) ?_
        refine vp_callSi (bn_roS (As := [.int (y)]) (rest := []) ⟨hx, hb, hml, hown, hts⟩ (cm_isPlace l (y)) (va_cwS 1 hts gX4_vote_X4_isPlace rfl rfl rfl (by decide +kernel) ⟨Nat.le_of_ble_eq_true rfl, Nat.le_of_ble_eq_true rfl⟩) rfl hl.1 (Nat.le_of_ble_eq_true rfl) dX4_vote_9 ⟨Nat.le_of_ble_eq_true rfl, Nat.le_of_ble_eq_true rfl⟩) (fun r_5 er_5 => ?_)
        obtain rfl : r_5 = nI 0 := by rw [er_5, hx2]; rfl
        refine lv_if_eq (tgt := 29) hx hb dX4_vote_12 (by decide) (fun c_6 => ?_) (fun c_6 => ?_)
        · refine lv_iconst (v := -1) hx hb dX4_vote_29 (by decide) ?_
          exact bn_roti hx hb hr hlocks (by unfold bh_mvote; rw [hx1]; dsimp only; rw [hx2]) dX4_vote_30
        · first | exact absurd c_6 (by decide) | exact absurd (by decide) c_6
      · obtain ⟨hq, rfl⟩ := bh_ix_some hx2
        refine lv_iload_n hx hb dX4_vote_8 rfl (lv_at hl 2 rfl) ?_
        refine vp_callSi (bn_roS (As := [.int (nI q)]) (rest := []) ⟨hx, hb, hml, hown, hts⟩ (cm_isPlace l (nI q)) (va_cwS 1 hts gX4_vote_X4_isPlace rfl rfl rfl (by decide +kernel) ⟨Nat.le_of_ble_eq_true rfl, Nat.le_of_ble_eq_true rfl⟩) rfl hl.1 (Nat.le_of_ble_eq_true rfl) dX4_vote_9 ⟨Nat.le_of_ble_eq_true rfl, Nat.le_of_ble_eq_true rfl⟩) (fun r_7 er_7 => ?_)
        obtain rfl : r_7 = nI 1 := by rw [er_7, hx2]; rfl
        refine lv_if_eq (tgt := 29) hx hb dX4_vote_12 (by decide) (fun c_8 => ?_) (fun c_8 => ?_)
        · first | exact absurd c_8 (by decide) | exact absurd (by decide) c_8
        · refine lv_aload_n hx hb dX4_vote_15 rfl (lv_at hl 0 rfl) ?_
          refine bn_get (ci := 3) (v := .ref (ad 2)) (C := RX4) (T := TX4) (N := 31) hx hb hts hinX4 hown hK hI 0 rfl rfl 2 (by decide) lk_13 rfl (rfl) dX4_vote_16 ?_
          refine lv_bipush (v := nI 8) hx hb dX4_vote_19 (by decide) ?_
          refine lv_iload_n hx hb dX4_vote_21 rfl (lv_at hl 1 rfl) ?_
          refine bn_imul hx hb dX4_vote_22 ?_
          refine lv_iload_n hx hb dX4_vote_23 rfl (lv_at hl 2 rfl) ?_
          refine bn_iadd hx hb dX4_vote_24 ?_
          refine bn_iald (n := 56) (v := S.2.2.1 2 ((8 * v) + q)) hx hb hK hI 2 0 rfl rfl (by omega) (by first | decide | omega) (rfl) dX4_vote_25 ?_
          refine lv_goto (tgt := 30) hx hb dX4_vote_26 (by decide) ?_
          exact bn_roti hx hb hr hlocks (by unfold bh_mvote; rw [hx1]; dsimp only; rw [hx2]) dX4_vote_30
set_option maxHeartbeats 4000000 in
set_option maxRecDepth 100000 in
theorem cm_value (l : Launch) (D : va_G) (c : bh_C) (h : Nat) (ad : Nat → Nat) (S : mS) (x y : Int32) (hn : S.1 0 ≤ 7) : Met l yX4_value wsX4_value ({ frames := 1, cells := 0, slots := 0, locals := 21 }) (va_Pc [.ref h, .int (x), .int (y)] (bh_pre D c (bh_mw h ad c (S)))) (vp_Sl (fun r => r = bh_mvalue S x y)) 0 0 (fun _ => False) := by
  refine Met.ofW (cc := cX4_value) (maxL := 3) (ret := (some .long)) (by decide) rfl ?_
  intro p e s m args below meth c0 s₁ B hml hv
  obtain ⟨rfl, hP, hK, hD0⟩ := hv
  have hx := B.exec
  have hb := B.bytes
  have hr := B.returns
  have hts := atoms_spec (ws := wsX4_value) B.pre
  have hown : s.vm.findClass RX4 = some m.cls := findClass_of_methodNamed B.named
  have hlocks := B.notSynchronized
  have hinX4 : ∀ w ∈ wsX40, w ∈ wsX4_value := fun _ h => List.mem_cons_of_mem _ (List.mem_append_right _ h)
  have lk_16 : (Cond.fieldLink RX4 16 "BallotHouseModel" "value" "[J").before _ s = true := hts _ (by decide +kernel)
  have hI : bh_I D (bh_mw h ad c (S)) (fun _ => True) s.heap s.heap [] := ⟨hP, hD0, va_S.rf⟩
  have hl := lv_entry ([.ref h, .int (x), .int (y)]) (n := 3) (Nat.le_of_ble_eq_true rfl)
  rw [lg_entry_eq]
  generalize (lg_sl ([.ref h, .int (x), .int (y)]) ++ List.replicate (3 - (lg_sl ([.ref h, .int (x), .int (y)])).length) Slot.unset).toArray = ls at hl ⊢
  have hl : lv_has ls 3 [(0, .ref h), (1, .int (x)), (2, .int (y))] := hl
  rcases hx1 : bh_ix x (S.1 0) with _ | v
  · refine lv_aload_n hx hb dX4_value_0 rfl (lv_at hl 0 rfl) ?_
    refine lv_iload_n hx hb dX4_value_1 rfl (lv_at hl 1 rfl) ?_
    refine vp_callSi (bn_roV (As := [.int (x)]) (rest := []) ⟨hx, hb, hml, hown, hts⟩ (cm_isVoter l D c h ad S (x) hn) (cwV 1 hts gX4_value_X4_isVoter rfl rfl rfl (by decide +kernel) ⟨Nat.le_of_ble_eq_true rfl, Nat.le_of_ble_eq_true rfl⟩) hK hI 0 3 rfl rfl rfl rfl hl.1 (Nat.le_of_ble_eq_true rfl) dX4_value_2 ⟨Nat.le_of_ble_eq_true rfl, Nat.le_of_ble_eq_true rfl⟩) (fun r_1 er_1 => ?_)
    obtain rfl : r_1 = nI 0 := by rw [er_1, hx1]; rfl
    refine lv_if_eq (tgt := 29) hx hb dX4_value_5 (by decide) (fun c_2 => ?_) (fun c_2 => ?_)
    · refine lv_lconst (v := 0) hx hb dX4_value_29 (by decide) ?_
      exact bn_rotl hx hb hr hlocks (by unfold bh_mvalue; rw [hx1]) dX4_value_30
    · first | exact absurd c_2 (by decide) | exact absurd (by decide) c_2
  · obtain ⟨hv, rfl⟩ := bh_ix_some hx1
    refine lv_aload_n hx hb dX4_value_0 rfl (lv_at hl 0 rfl) ?_
    refine lv_iload_n hx hb dX4_value_1 rfl (lv_at hl 1 rfl) ?_
    refine vp_callSi (bn_roV (As := [.int (nI v)]) (rest := []) ⟨hx, hb, hml, hown, hts⟩ (cm_isVoter l D c h ad S (nI v) hn) (cwV 1 hts gX4_value_X4_isVoter rfl rfl rfl (by decide +kernel) ⟨Nat.le_of_ble_eq_true rfl, Nat.le_of_ble_eq_true rfl⟩) hK hI 0 3 rfl rfl rfl rfl hl.1 (Nat.le_of_ble_eq_true rfl) dX4_value_2 ⟨Nat.le_of_ble_eq_true rfl, Nat.le_of_ble_eq_true rfl⟩) (fun r_3 er_3 => ?_)
    obtain rfl : r_3 = nI 1 := by rw [er_3, hx1]; rfl
    refine lv_if_eq (tgt := 29) hx hb dX4_value_5 (by decide) (fun c_4 => ?_) (fun c_4 => ?_)
    · first | exact absurd c_4 (by decide) | exact absurd (by decide) c_4
    · rcases hx2 : bh_ix y 8 with _ | q
      · refine lv_iload_n hx hb dX4_value_8 rfl (lv_at hl 2 rfl) ?_
        refine vp_callSi (bn_roS (As := [.int (y)]) (rest := []) ⟨hx, hb, hml, hown, hts⟩ (cm_isPlace l (y)) (va_cwS 1 hts gX4_value_X4_isPlace rfl rfl rfl (by decide +kernel) ⟨Nat.le_of_ble_eq_true rfl, Nat.le_of_ble_eq_true rfl⟩) rfl hl.1 (Nat.le_of_ble_eq_true rfl) dX4_value_9 ⟨Nat.le_of_ble_eq_true rfl, Nat.le_of_ble_eq_true rfl⟩) (fun r_5 er_5 => ?_)
        obtain rfl : r_5 = nI 0 := by rw [er_5, hx2]; rfl
        refine lv_if_eq (tgt := 29) hx hb dX4_value_12 (by decide) (fun c_6 => ?_) (fun c_6 => ?_)
        · refine lv_lconst (v := 0) hx hb dX4_value_29 (by decide) ?_
          exact bn_rotl hx hb hr hlocks (by unfold bh_mvalue; rw [hx1]; dsimp only; rw [hx2]) dX4_value_30
        · first | exact absurd c_6 (by decide) | exact absurd (by decide) c_6
      · obtain ⟨hq, rfl⟩ := bh_ix_some hx2
        refine lv_iload_n hx hb dX4_value_8 rfl (lv_at hl 2 rfl) ?_
        refine vp_callSi (bn_roS (As := [.int (nI q)]) (rest := []) ⟨hx, hb, hml, hown, hts⟩ (cm_isPlace l (nI q)) (va_cwS 1 hts gX4_value_X4_isPlace rfl rfl rfl (by decide +kernel) ⟨Nat.le_of_ble_eq_true rfl, Nat.le_of_ble_eq_true rfl⟩) rfl hl.1 (Nat.le_of_ble_eq_true rfl) dX4_value_9 ⟨Nat.le_of_ble_eq_true rfl, Nat.le_of_ble_eq_true rfl⟩) (fun r_7 er_7 => ?_)
        obtain rfl : r_7 = nI 1 := by rw [er_7, hx2]; rfl
        refine lv_if_eq (tgt := 29) hx hb dX4_value_12 (by decide) (fun c_8 => ?_) (fun c_8 => ?_)
        · first | exact absurd c_8 (by decide) | exact absurd (by decide) c_8
        · refine lv_aload_n hx hb dX4_value_15 rfl (lv_at hl 0 rfl) ?_
          refine bn_get (ci := 3) (v := .ref (ad 3)) (C := RX4) (T := TX4) (N := 31) hx hb hts hinX4 hown hK hI 0 rfl rfl 3 (by decide) lk_16 rfl (rfl) dX4_value_16 ?_
          refine lv_bipush (v := nI 8) hx hb dX4_value_19 (by decide) ?_
          refine lv_iload_n hx hb dX4_value_21 rfl (lv_at hl 1 rfl) ?_
          refine bn_imul hx hb dX4_value_22 ?_
          refine lv_iload_n hx hb dX4_value_23 rfl (lv_at hl 2 rfl) ?_
          refine bn_iadd hx hb dX4_value_24 ?_
          refine bn_lald (n := 56) (v := S.2.2.2 3 ((8 * v) + q)) hx hb hK hI 3 1 rfl rfl (by omega) (by first | decide | omega) (rfl) dX4_value_25 ?_
          refine lv_goto (tgt := 30) hx hb dX4_value_26 (by decide) ?_
          exact bn_rotl hx hb hr hlocks (by unfold bh_mvalue; rw [hx1]; dsimp only; rw [hx2]) dX4_value_30
set_option maxHeartbeats 4000000 in
set_option maxRecDepth 100000 in
theorem cm_answered (l : Launch) (D : va_G) (c : bh_C) (h : Nat) (ad : Nat → Nat) (S : mS) (x y : Int32) (hk24 : S.1 18 ≤ 24) : Met l yX4_answered wsX4_answered ({ frames := 1, cells := 0, slots := 0, locals := 21 }) (va_Pc [.ref h, .int (x), .int (y)] (bh_pre D c (bh_mw h ad c (S)))) (vp_Si (fun r => r = bh_mansw S x y)) 0 0 (fun _ => False) := by
  refine Met.ofW (cc := cX4_answered) (maxL := 3) (ret := (some .int)) (by decide) rfl ?_
  intro p e s m args below meth c0 s₁ B hml hv
  obtain ⟨rfl, hP, hK, hD0⟩ := hv
  have hx := B.exec
  have hb := B.bytes
  have hr := B.returns
  have hts := atoms_spec (ws := wsX4_answered) B.pre
  have hown : s.vm.findClass RX4 = some m.cls := findClass_of_methodNamed B.named
  have hlocks := B.notSynchronized
  have hinX4 : ∀ w ∈ wsX40, w ∈ wsX4_answered := fun _ h => List.mem_cons_of_mem _ (List.mem_append_right _ h)
  have lk_54 : (Cond.fieldLink RX4 54 "BallotHouseModel" "answers" "[I").before _ s = true := hts _ (by decide +kernel)
  have hI : bh_I D (bh_mw h ad c (S)) (fun _ => True) s.heap s.heap [] := ⟨hP, hD0, va_S.rf⟩
  have hl := lv_entry ([.ref h, .int (x), .int (y)]) (n := 3) (Nat.le_of_ble_eq_true rfl)
  rw [lg_entry_eq]
  generalize (lg_sl ([.ref h, .int (x), .int (y)]) ++ List.replicate (3 - (lg_sl ([.ref h, .int (x), .int (y)])).length) Slot.unset).toArray = ls at hl ⊢
  have hl : lv_has ls 3 [(0, .ref h), (1, .int (x)), (2, .int (y))] := hl
  rcases hx1 : bh_ixb x (S.1 18) with _ | b
  · refine lv_aload_n hx hb dX4_answered_0 rfl (lv_at hl 0 rfl) ?_
    refine lv_iload_n hx hb dX4_answered_1 rfl (lv_at hl 1 rfl) ?_
    refine vp_callSi (bn_roV (As := [.int (x)]) (rest := []) ⟨hx, hb, hml, hown, hts⟩ (cm_isBallot l D c h ad S (x) hk24) (cwV 1 hts gX4_answered_X4_isBallot rfl rfl rfl (by decide +kernel) ⟨Nat.le_of_ble_eq_true rfl, Nat.le_of_ble_eq_true rfl⟩) hK hI 0 3 rfl rfl rfl rfl hl.1 (Nat.le_of_ble_eq_true rfl) dX4_answered_2 ⟨Nat.le_of_ble_eq_true rfl, Nat.le_of_ble_eq_true rfl⟩) (fun r_1 er_1 => ?_)
    obtain rfl : r_1 = nI 0 := by rw [er_1, hx1]; rfl
    refine lv_if_eq (tgt := 29) hx hb dX4_answered_5 (by decide) (fun c_2 => ?_) (fun c_2 => ?_)
    · refine lv_iconst (v := -1) hx hb dX4_answered_29 (by decide) ?_
      exact bn_roti hx hb hr hlocks (by unfold bh_mansw; rw [hx1]) dX4_answered_30
    · first | exact absurd c_2 (by decide) | exact absurd (by decide) c_2
  · obtain ⟨hb1, hb2, rfl⟩ := bh_ixb_some hx1
    refine lv_aload_n hx hb dX4_answered_0 rfl (lv_at hl 0 rfl) ?_
    refine lv_iload_n hx hb dX4_answered_1 rfl (lv_at hl 1 rfl) ?_
    refine vp_callSi (bn_roV (As := [.int (nI b)]) (rest := []) ⟨hx, hb, hml, hown, hts⟩ (cm_isBallot l D c h ad S (nI b) hk24) (cwV 1 hts gX4_answered_X4_isBallot rfl rfl rfl (by decide +kernel) ⟨Nat.le_of_ble_eq_true rfl, Nat.le_of_ble_eq_true rfl⟩) hK hI 0 3 rfl rfl rfl rfl hl.1 (Nat.le_of_ble_eq_true rfl) dX4_answered_2 ⟨Nat.le_of_ble_eq_true rfl, Nat.le_of_ble_eq_true rfl⟩) (fun r_3 er_3 => ?_)
    obtain rfl : r_3 = nI 1 := by rw [er_3, hx1]; rfl
    refine lv_if_eq (tgt := 29) hx hb dX4_answered_5 (by decide) (fun c_4 => ?_) (fun c_4 => ?_)
    · first | exact absurd c_4 (by decide) | exact absurd (by decide) c_4
    · rcases hx2 : bh_ix y 8 with _ | q
      · refine lv_iload_n hx hb dX4_answered_8 rfl (lv_at hl 2 rfl) ?_
        refine vp_callSi (bn_roS (As := [.int (y)]) (rest := []) ⟨hx, hb, hml, hown, hts⟩ (cm_isPlace l (y)) (va_cwS 1 hts gX4_answered_X4_isPlace rfl rfl rfl (by decide +kernel) ⟨Nat.le_of_ble_eq_true rfl, Nat.le_of_ble_eq_true rfl⟩) rfl hl.1 (Nat.le_of_ble_eq_true rfl) dX4_answered_9 ⟨Nat.le_of_ble_eq_true rfl, Nat.le_of_ble_eq_true rfl⟩) (fun r_5 er_5 => ?_)
        obtain rfl : r_5 = nI 0 := by rw [er_5, hx2]; rfl
        refine lv_if_eq (tgt := 29) hx hb dX4_answered_12 (by decide) (fun c_6 => ?_) (fun c_6 => ?_)
        · refine lv_iconst (v := -1) hx hb dX4_answered_29 (by decide) ?_
          exact bn_roti hx hb hr hlocks (by unfold bh_mansw; rw [hx1]; dsimp only; rw [hx2]) dX4_answered_30
        · first | exact absurd c_6 (by decide) | exact absurd (by decide) c_6
      · obtain ⟨hq, rfl⟩ := bh_ix_some hx2
        refine lv_iload_n hx hb dX4_answered_8 rfl (lv_at hl 2 rfl) ?_
        refine vp_callSi (bn_roS (As := [.int (nI q)]) (rest := []) ⟨hx, hb, hml, hown, hts⟩ (cm_isPlace l (nI q)) (va_cwS 1 hts gX4_answered_X4_isPlace rfl rfl rfl (by decide +kernel) ⟨Nat.le_of_ble_eq_true rfl, Nat.le_of_ble_eq_true rfl⟩) rfl hl.1 (Nat.le_of_ble_eq_true rfl) dX4_answered_9 ⟨Nat.le_of_ble_eq_true rfl, Nat.le_of_ble_eq_true rfl⟩) (fun r_7 er_7 => ?_)
        obtain rfl : r_7 = nI 1 := by rw [er_7, hx2]; rfl
        refine lv_if_eq (tgt := 29) hx hb dX4_answered_12 (by decide) (fun c_8 => ?_) (fun c_8 => ?_)
        · first | exact absurd c_8 (by decide) | exact absurd (by decide) c_8
        · refine lv_aload_n hx hb dX4_answered_15 rfl (lv_at hl 0 rfl) ?_
          refine bn_get (ci := 3) (v := .ref (ad 15)) (C := RX4) (T := TX4) (N := 31) hx hb hts hinX4 hown hK hI 0 rfl rfl 15 (by decide) lk_54 rfl (rfl) dX4_answered_16 ?_
          refine lv_bipush (v := nI 8) hx hb dX4_answered_19 (by decide) ?_
          refine lv_iload_n hx hb dX4_answered_21 rfl (lv_at hl 1 rfl) ?_
          refine bn_imul hx hb dX4_answered_22 ?_
          refine lv_iload_n hx hb dX4_answered_23 rfl (lv_at hl 2 rfl) ?_
          refine bn_iadd hx hb dX4_answered_24 ?_
          refine bn_iald (n := 200) (v := S.2.2.1 15 ((8 * b) + q)) hx hb hK hI 15 0 rfl rfl (by omega) (by first | decide | omega) (rfl) dX4_answered_25 ?_
          refine lv_goto (tgt := 30) hx hb dX4_answered_26 (by decide) ?_
          exact bn_roti hx hb hr hlocks (by unfold bh_mansw; rw [hx1]; dsimp only; rw [hx2]) dX4_answered_30
set_option maxHeartbeats 4000000 in
set_option maxRecDepth 100000 in
theorem cm_said (l : Launch) (D : va_G) (c : bh_C) (h : Nat) (ad : Nat → Nat) (S : mS) (x y : Int32) (hk24 : S.1 18 ≤ 24) : Met l yX4_said wsX4_said ({ frames := 1, cells := 0, slots := 0, locals := 21 }) (va_Pc [.ref h, .int (x), .int (y)] (bh_pre D c (bh_mw h ad c (S)))) (vp_Sl (fun r => r = bh_msaid S x y)) 0 0 (fun _ => False) := by
  refine Met.ofW (cc := cX4_said) (maxL := 3) (ret := (some .long)) (by decide) rfl ?_
  intro p e s m args below meth c0 s₁ B hml hv
  obtain ⟨rfl, hP, hK, hD0⟩ := hv
  have hx := B.exec
  have hb := B.bytes
  have hr := B.returns
  have hts := atoms_spec (ws := wsX4_said) B.pre
  have hown : s.vm.findClass RX4 = some m.cls := findClass_of_methodNamed B.named
  have hlocks := B.notSynchronized
  have hinX4 : ∀ w ∈ wsX40, w ∈ wsX4_said := fun _ h => List.mem_cons_of_mem _ (List.mem_append_right _ h)
  have lk_60 : (Cond.fieldLink RX4 60 "BallotHouseModel" "says" "[J").before _ s = true := hts _ (by decide +kernel)
  have hI : bh_I D (bh_mw h ad c (S)) (fun _ => True) s.heap s.heap [] := ⟨hP, hD0, va_S.rf⟩
  have hl := lv_entry ([.ref h, .int (x), .int (y)]) (n := 3) (Nat.le_of_ble_eq_true rfl)
  rw [lg_entry_eq]
  generalize (lg_sl ([.ref h, .int (x), .int (y)]) ++ List.replicate (3 - (lg_sl ([.ref h, .int (x), .int (y)])).length) Slot.unset).toArray = ls at hl ⊢
  have hl : lv_has ls 3 [(0, .ref h), (1, .int (x)), (2, .int (y))] := hl
  rcases hx1 : bh_ixb x (S.1 18) with _ | b
  · refine lv_aload_n hx hb dX4_said_0 rfl (lv_at hl 0 rfl) ?_
    refine lv_iload_n hx hb dX4_said_1 rfl (lv_at hl 1 rfl) ?_
    refine vp_callSi (bn_roV (As := [.int (x)]) (rest := []) ⟨hx, hb, hml, hown, hts⟩ (cm_isBallot l D c h ad S (x) hk24) (cwV 1 hts gX4_said_X4_isBallot rfl rfl rfl (by decide +kernel) ⟨Nat.le_of_ble_eq_true rfl, Nat.le_of_ble_eq_true rfl⟩) hK hI 0 3 rfl rfl rfl rfl hl.1 (Nat.le_of_ble_eq_true rfl) dX4_said_2 ⟨Nat.le_of_ble_eq_true rfl, Nat.le_of_ble_eq_true rfl⟩) (fun r_1 er_1 => ?_)
    obtain rfl : r_1 = nI 0 := by rw [er_1, hx1]; rfl
    refine lv_if_eq (tgt := 29) hx hb dX4_said_5 (by decide) (fun c_2 => ?_) (fun c_2 => ?_)
    · refine lv_lconst (v := 0) hx hb dX4_said_29 (by decide) ?_
      exact bn_rotl hx hb hr hlocks (by unfold bh_msaid; rw [hx1]) dX4_said_30
    · first | exact absurd c_2 (by decide) | exact absurd (by decide) c_2
  · obtain ⟨hb1, hb2, rfl⟩ := bh_ixb_some hx1
    refine lv_aload_n hx hb dX4_said_0 rfl (lv_at hl 0 rfl) ?_
    refine lv_iload_n hx hb dX4_said_1 rfl (lv_at hl 1 rfl) ?_
    refine vp_callSi (bn_roV (As := [.int (nI b)]) (rest := []) ⟨hx, hb, hml, hown, hts⟩ (cm_isBallot l D c h ad S (nI b) hk24) (cwV 1 hts gX4_said_X4_isBallot rfl rfl rfl (by decide +kernel) ⟨Nat.le_of_ble_eq_true rfl, Nat.le_of_ble_eq_true rfl⟩) hK hI 0 3 rfl rfl rfl rfl hl.1 (Nat.le_of_ble_eq_true rfl) dX4_said_2 ⟨Nat.le_of_ble_eq_true rfl, Nat.le_of_ble_eq_true rfl⟩) (fun r_3 er_3 => ?_)
    obtain rfl : r_3 = nI 1 := by rw [er_3, hx1]; rfl
    refine lv_if_eq (tgt := 29) hx hb dX4_said_5 (by decide) (fun c_4 => ?_) (fun c_4 => ?_)
    · first | exact absurd c_4 (by decide) | exact absurd (by decide) c_4
    · rcases hx2 : bh_ix y 8 with _ | q
      · refine lv_iload_n hx hb dX4_said_8 rfl (lv_at hl 2 rfl) ?_
        refine vp_callSi (bn_roS (As := [.int (y)]) (rest := []) ⟨hx, hb, hml, hown, hts⟩ (cm_isPlace l (y)) (va_cwS 1 hts gX4_said_X4_isPlace rfl rfl rfl (by decide +kernel) ⟨Nat.le_of_ble_eq_true rfl, Nat.le_of_ble_eq_true rfl⟩) rfl hl.1 (Nat.le_of_ble_eq_true rfl) dX4_said_9 ⟨Nat.le_of_ble_eq_true rfl, Nat.le_of_ble_eq_true rfl⟩) (fun r_5 er_5 => ?_)
        obtain rfl : r_5 = nI 0 := by rw [er_5, hx2]; rfl
        refine lv_if_eq (tgt := 29) hx hb dX4_said_12 (by decide) (fun c_6 => ?_) (fun c_6 => ?_)
        · refine lv_lconst (v := 0) hx hb dX4_said_29 (by decide) ?_
          exact bn_rotl hx hb hr hlocks (by unfold bh_msaid; rw [hx1]; dsimp only; rw [hx2]) dX4_said_30
        · first | exact absurd c_6 (by decide) | exact absurd (by decide) c_6
      · obtain ⟨hq, rfl⟩ := bh_ix_some hx2
        refine lv_iload_n hx hb dX4_said_8 rfl (lv_at hl 2 rfl) ?_
        refine vp_callSi (bn_roS (As := [.int (nI q)]) (rest := []) ⟨hx, hb, hml, hown, hts⟩ (cm_isPlace l (nI q)) (va_cwS 1 hts gX4_said_X4_isPlace rfl rfl rfl (by decide +kernel) ⟨Nat.le_of_ble_eq_true rfl, Nat.le_of_ble_eq_true rfl⟩) rfl hl.1 (Nat.le_of_ble_eq_true rfl) dX4_said_9 ⟨Nat.le_of_ble_eq_true rfl, Nat.le_of_ble_eq_true rfl⟩) (fun r_7 er_7 => ?_)
        obtain rfl : r_7 = nI 1 := by rw [er_7, hx2]; rfl
        refine lv_if_eq (tgt := 29) hx hb dX4_said_12 (by decide) (fun c_8 => ?_) (fun c_8 => ?_)
        · first | exact absurd c_8 (by decide) | exact absurd (by decide) c_8
        · refine lv_aload_n hx hb dX4_said_15 rfl (lv_at hl 0 rfl) ?_
          refine bn_get (ci := 3) (v := .ref (ad 17)) (C := RX4) (T := TX4) (N := 31) hx hb hts hinX4 hown hK hI 0 rfl rfl 17 (by decide) lk_60 rfl (rfl) dX4_said_16 ?_
          refine lv_bipush (v := nI 8) hx hb dX4_said_19 (by decide) ?_
          refine lv_iload_n hx hb dX4_said_21 rfl (lv_at hl 1 rfl) ?_
          refine bn_imul hx hb dX4_said_22 ?_
          refine lv_iload_n hx hb dX4_said_23 rfl (lv_at hl 2 rfl) ?_
          refine bn_iadd hx hb dX4_said_24 ?_
          refine bn_lald (n := 200) (v := S.2.2.2 17 ((8 * b) + q)) hx hb hK hI 17 1 rfl rfl (by omega) (by first | decide | omega) (rfl) dX4_said_25 ?_
          refine lv_goto (tgt := 30) hx hb dX4_said_26 (by decide) ?_
          exact bn_rotl hx hb hr hlocks (by unfold bh_msaid; rw [hx1]; dsimp only; rw [hx2]) dX4_said_30
set_option maxHeartbeats 4000000 in
set_option maxRecDepth 100000 in
theorem cm_of (l : Launch) (D : va_G) (c : bh_C) (h : Nat) (ad : Nat → Nat) (S : mS) (x y : Int32) (hk24 : S.1 18 ≤ 24) : Met l yX4_of wsX4_of ({ frames := 1, cells := 0, slots := 0, locals := 21 }) (va_Pc [.ref h, .int (x), .int (y)] (bh_pre D c (bh_mw h ad c (S)))) (vp_Si (fun r => r = bh_mof S x y)) 0 0 (fun _ => False) := by
  refine Met.ofW (cc := cX4_of) (maxL := 3) (ret := (some .int)) (by decide) rfl ?_
  intro p e s m args below meth c0 s₁ B hml hv
  obtain ⟨rfl, hP, hK, hD0⟩ := hv
  have hx := B.exec
  have hb := B.bytes
  have hr := B.returns
  have hts := atoms_spec (ws := wsX4_of) B.pre
  have hown : s.vm.findClass RX4 = some m.cls := findClass_of_methodNamed B.named
  have hlocks := B.notSynchronized
  have hinX4 : ∀ w ∈ wsX40, w ∈ wsX4_of := fun _ h => List.mem_cons_of_mem _ (List.mem_append_right _ h)
  have lk_24 : (Cond.fieldLink RX4 24 "BallotHouseModel" "state" "[I").before _ s = true := hts _ (by decide +kernel)
  have lk_27 : (Cond.fieldLink RX4 27 "BallotHouseModel" "members" "[I").before _ s = true := hts _ (by decide +kernel)
  have lk_30 : (Cond.fieldLink RX4 30 "BallotHouseModel" "reads" "[I").before _ s = true := hts _ (by decide +kernel)
  have lk_33 : (Cond.fieldLink RX4 33 "BallotHouseModel" "writes" "[I").before _ s = true := hts _ (by decide +kernel)
  have lk_36 : (Cond.fieldLink RX4 36 "BallotHouseModel" "behind" "[I").before _ s = true := hts _ (by decide +kernel)
  have lk_39 : (Cond.fieldLink RX4 39 "BallotHouseModel" "readers" "[I").before _ s = true := hts _ (by decide +kernel)
  have lk_42 : (Cond.fieldLink RX4 42 "BallotHouseModel" "found" "[I").before _ s = true := hts _ (by decide +kernel)
  have lk_45 : (Cond.fieldLink RX4 45 "BallotHouseModel" "proposed" "[I").before _ s = true := hts _ (by decide +kernel)
  have lk_48 : (Cond.fieldLink RX4 48 "BallotHouseModel" "known" "[I").before _ s = true := hts _ (by decide +kernel)
  have hI : bh_I D (bh_mw h ad c (S)) (fun _ => True) s.heap s.heap [] := ⟨hP, hD0, va_S.rf⟩
  have hl := lv_entry ([.ref h, .int (x), .int (y)]) (n := 3) (Nat.le_of_ble_eq_true rfl)
  rw [lg_entry_eq]
  generalize (lg_sl ([.ref h, .int (x), .int (y)]) ++ List.replicate (3 - (lg_sl ([.ref h, .int (x), .int (y)])).length) Slot.unset).toArray = ls at hl ⊢
  have hl : lv_has ls 3 [(0, .ref h), (1, .int (x)), (2, .int (y))] := hl
  rcases hx1 : bh_ixb x (S.1 18) with _ | b
  · refine lv_aload_n hx hb dX4_of_0 rfl (lv_at hl 0 rfl) ?_
    refine lv_iload_n hx hb dX4_of_1 rfl (lv_at hl 1 rfl) ?_
    refine vp_callSi (bn_roV (As := [.int (x)]) (rest := []) ⟨hx, hb, hml, hown, hts⟩ (cm_isBallot l D c h ad S (x) hk24) (cwV 1 hts gX4_of_X4_isBallot rfl rfl rfl (by decide +kernel) ⟨Nat.le_of_ble_eq_true rfl, Nat.le_of_ble_eq_true rfl⟩) hK hI 0 3 rfl rfl rfl rfl hl.1 (Nat.le_of_ble_eq_true rfl) dX4_of_2 ⟨Nat.le_of_ble_eq_true rfl, Nat.le_of_ble_eq_true rfl⟩) (fun r_1 er_1 => ?_)
    obtain rfl : r_1 = nI 0 := by rw [er_1, hx1]; rfl
    refine lv_if_ne (tgt := 10) hx hb dX4_of_5 (by decide) (fun c_2 => ?_) (fun c_2 => ?_)
    · first | exact absurd c_2 (by decide) | exact absurd (by decide) c_2
    · refine lv_iconst (v := -1) hx hb dX4_of_8 (by decide) ?_
      exact bn_roti hx hb hr hlocks (by unfold bh_mof; rw [hx1]) dX4_of_9
  · obtain ⟨hb1, hb2, rfl⟩ := bh_ixb_some hx1
    refine lv_aload_n hx hb dX4_of_0 rfl (lv_at hl 0 rfl) ?_
    refine lv_iload_n hx hb dX4_of_1 rfl (lv_at hl 1 rfl) ?_
    refine vp_callSi (bn_roV (As := [.int (nI b)]) (rest := []) ⟨hx, hb, hml, hown, hts⟩ (cm_isBallot l D c h ad S (nI b) hk24) (cwV 1 hts gX4_of_X4_isBallot rfl rfl rfl (by decide +kernel) ⟨Nat.le_of_ble_eq_true rfl, Nat.le_of_ble_eq_true rfl⟩) hK hI 0 3 rfl rfl rfl rfl hl.1 (Nat.le_of_ble_eq_true rfl) dX4_of_2 ⟨Nat.le_of_ble_eq_true rfl, Nat.le_of_ble_eq_true rfl⟩) (fun r_3 er_3 => ?_)
    obtain rfl : r_3 = nI 1 := by rw [er_3, hx1]; rfl
    refine lv_if_ne (tgt := 10) hx hb dX4_of_5 (by decide) (fun c_4 => ?_) (fun c_4 => ?_)
    · rcases hx2 : bh_ix y 9 with _ | j
      · refine lv_iload_n hx hb dX4_of_10 rfl (lv_at hl 2 rfl) ?_
        refine lv_tableOut (tgt := 123) hx hb dX4_of_11 (by have := bh_ix_none hx2; omega) (by decide) ?_
        refine lv_iconst (v := -1) hx hb dX4_of_123 (by decide) ?_
        exact bn_roti hx hb hr hlocks (by unfold bh_mof; rw [hx1]; dsimp only; rw [hx2]) dX4_of_124
      · obtain ⟨hj, rfl⟩ := bh_ix_some hx2
        refine lv_iload_n hx hb dX4_of_10 rfl (lv_at hl 2 rfl) ?_
        rcases (show j = 0 ∨ j = 1 ∨ j = 2 ∨ j = 3 ∨ j = 4 ∨ j = 5 ∨ j = 6 ∨ j = 7 ∨ j = 8 by omega) with rfl | rfl | rfl | rfl | rfl | rfl | rfl | rfl | rfl
        · refine lv_tableIn (tgt := 60) hx hb dX4_of_11 (by decide) (by decide) rfl (by decide) ?_
          refine lv_aload_n hx hb dX4_of_60 rfl (lv_at hl 0 rfl) ?_
          refine bn_get (ci := 3) (v := .ref (ad 5)) (C := RX4) (T := TX4) (N := 31) hx hb hts hinX4 hown hK hI 0 rfl rfl 5 (by decide) lk_24 rfl (rfl) dX4_of_61 ?_
          refine lv_iload_n hx hb dX4_of_64 rfl (lv_at hl 1 rfl) ?_
          refine bn_iald (n := 25) (v := S.2.2.1 5 b) hx hb hK hI 5 0 rfl rfl (by omega) (by first | decide | omega) (rfl) dX4_of_65 ?_
          exact bn_roti hx hb hr hlocks (by unfold bh_mof; rw [hx1]; dsimp only; rw [hx2]) dX4_of_66
        · refine lv_tableIn (tgt := 67) hx hb dX4_of_11 (by decide) (by decide) rfl (by decide) ?_
          refine lv_aload_n hx hb dX4_of_67 rfl (lv_at hl 0 rfl) ?_
          refine bn_get (ci := 3) (v := .ref (ad 6)) (C := RX4) (T := TX4) (N := 31) hx hb hts hinX4 hown hK hI 0 rfl rfl 6 (by decide) lk_27 rfl (rfl) dX4_of_68 ?_
          refine lv_iload_n hx hb dX4_of_71 rfl (lv_at hl 1 rfl) ?_
          refine bn_iald (n := 25) (v := S.2.2.1 6 b) hx hb hK hI 6 0 rfl rfl (by omega) (by first | decide | omega) (rfl) dX4_of_72 ?_
          exact bn_roti hx hb hr hlocks (by unfold bh_mof; rw [hx1]; dsimp only; rw [hx2]) dX4_of_73
        · refine lv_tableIn (tgt := 74) hx hb dX4_of_11 (by decide) (by decide) rfl (by decide) ?_
          refine lv_aload_n hx hb dX4_of_74 rfl (lv_at hl 0 rfl) ?_
          refine bn_get (ci := 3) (v := .ref (ad 7)) (C := RX4) (T := TX4) (N := 31) hx hb hts hinX4 hown hK hI 0 rfl rfl 7 (by decide) lk_30 rfl (rfl) dX4_of_75 ?_
          refine lv_iload_n hx hb dX4_of_78 rfl (lv_at hl 1 rfl) ?_
          refine bn_iald (n := 25) (v := S.2.2.1 7 b) hx hb hK hI 7 0 rfl rfl (by omega) (by first | decide | omega) (rfl) dX4_of_79 ?_
          exact bn_roti hx hb hr hlocks (by unfold bh_mof; rw [hx1]; dsimp only; rw [hx2]) dX4_of_80
        · refine lv_tableIn (tgt := 81) hx hb dX4_of_11 (by decide) (by decide) rfl (by decide) ?_
          refine lv_aload_n hx hb dX4_of_81 rfl (lv_at hl 0 rfl) ?_
          refine bn_get (ci := 3) (v := .ref (ad 8)) (C := RX4) (T := TX4) (N := 31) hx hb hts hinX4 hown hK hI 0 rfl rfl 8 (by decide) lk_33 rfl (rfl) dX4_of_82 ?_
          refine lv_iload_n hx hb dX4_of_85 rfl (lv_at hl 1 rfl) ?_
          refine bn_iald (n := 25) (v := S.2.2.1 8 b) hx hb hK hI 8 0 rfl rfl (by omega) (by first | decide | omega) (rfl) dX4_of_86 ?_
          exact bn_roti hx hb hr hlocks (by unfold bh_mof; rw [hx1]; dsimp only; rw [hx2]) dX4_of_87
        · refine lv_tableIn (tgt := 88) hx hb dX4_of_11 (by decide) (by decide) rfl (by decide) ?_
          refine lv_aload_n hx hb dX4_of_88 rfl (lv_at hl 0 rfl) ?_
          refine bn_get (ci := 3) (v := .ref (ad 9)) (C := RX4) (T := TX4) (N := 31) hx hb hts hinX4 hown hK hI 0 rfl rfl 9 (by decide) lk_36 rfl (rfl) dX4_of_89 ?_
          refine lv_iload_n hx hb dX4_of_92 rfl (lv_at hl 1 rfl) ?_
          refine bn_iald (n := 25) (v := S.2.2.1 9 b) hx hb hK hI 9 0 rfl rfl (by omega) (by first | decide | omega) (rfl) dX4_of_93 ?_
          exact bn_roti hx hb hr hlocks (by unfold bh_mof; rw [hx1]; dsimp only; rw [hx2]) dX4_of_94
        · refine lv_tableIn (tgt := 95) hx hb dX4_of_11 (by decide) (by decide) rfl (by decide) ?_
          refine lv_aload_n hx hb dX4_of_95 rfl (lv_at hl 0 rfl) ?_
          refine bn_get (ci := 3) (v := .ref (ad 10)) (C := RX4) (T := TX4) (N := 31) hx hb hts hinX4 hown hK hI 0 rfl rfl 10 (by decide) lk_39 rfl (rfl) dX4_of_96 ?_
          refine lv_iload_n hx hb dX4_of_99 rfl (lv_at hl 1 rfl) ?_
          refine bn_iald (n := 25) (v := S.2.2.1 10 b) hx hb hK hI 10 0 rfl rfl (by omega) (by first | decide | omega) (rfl) dX4_of_100 ?_
          exact bn_roti hx hb hr hlocks (by unfold bh_mof; rw [hx1]; dsimp only; rw [hx2]) dX4_of_101
        · refine lv_tableIn (tgt := 102) hx hb dX4_of_11 (by decide) (by decide) rfl (by decide) ?_
          refine lv_aload_n hx hb dX4_of_102 rfl (lv_at hl 0 rfl) ?_
          refine bn_get (ci := 3) (v := .ref (ad 11)) (C := RX4) (T := TX4) (N := 31) hx hb hts hinX4 hown hK hI 0 rfl rfl 11 (by decide) lk_42 rfl (rfl) dX4_of_103 ?_
          refine lv_iload_n hx hb dX4_of_106 rfl (lv_at hl 1 rfl) ?_
          refine bn_iald (n := 25) (v := S.2.2.1 11 b) hx hb hK hI 11 0 rfl rfl (by omega) (by first | decide | omega) (rfl) dX4_of_107 ?_
          exact bn_roti hx hb hr hlocks (by unfold bh_mof; rw [hx1]; dsimp only; rw [hx2]) dX4_of_108
        · refine lv_tableIn (tgt := 109) hx hb dX4_of_11 (by decide) (by decide) rfl (by decide) ?_
          refine lv_aload_n hx hb dX4_of_109 rfl (lv_at hl 0 rfl) ?_
          refine bn_get (ci := 3) (v := .ref (ad 12)) (C := RX4) (T := TX4) (N := 31) hx hb hts hinX4 hown hK hI 0 rfl rfl 12 (by decide) lk_45 rfl (rfl) dX4_of_110 ?_
          refine lv_iload_n hx hb dX4_of_113 rfl (lv_at hl 1 rfl) ?_
          refine bn_iald (n := 25) (v := S.2.2.1 12 b) hx hb hK hI 12 0 rfl rfl (by omega) (by first | decide | omega) (rfl) dX4_of_114 ?_
          exact bn_roti hx hb hr hlocks (by unfold bh_mof; rw [hx1]; dsimp only; rw [hx2]) dX4_of_115
        · refine lv_tableIn (tgt := 116) hx hb dX4_of_11 (by decide) (by decide) rfl (by decide) ?_
          refine lv_aload_n hx hb dX4_of_116 rfl (lv_at hl 0 rfl) ?_
          refine bn_get (ci := 3) (v := .ref (ad 13)) (C := RX4) (T := TX4) (N := 31) hx hb hts hinX4 hown hK hI 0 rfl rfl 13 (by decide) lk_48 rfl (rfl) dX4_of_117 ?_
          refine lv_iload_n hx hb dX4_of_120 rfl (lv_at hl 1 rfl) ?_
          refine bn_iald (n := 25) (v := S.2.2.1 13 b) hx hb hK hI 13 0 rfl rfl (by omega) (by first | decide | omega) (rfl) dX4_of_121 ?_
          exact bn_roti hx hb hr hlocks (by unfold bh_mof; rw [hx1]; dsimp only; rw [hx2]) dX4_of_122
    · first | exact absurd c_4 (by decide) | exact absurd (by decide) c_4
set_option maxHeartbeats 4000000 in
set_option maxRecDepth 100000 in
theorem cm_about (l : Launch) (D : va_G) (c : bh_C) (h : Nat) (ad : Nat → Nat) (S : mS) (x : Int32) : Met l yX4_about wsX4_about ({ frames := 0, cells := 0, slots := 0, locals := 0 }) (va_Pc [.ref h, .int (x)] (bh_pre D c (bh_mw h ad c (S)))) (vp_Si (fun r => r = bh_mabo S x)) 0 0 (fun _ => False) := by
  refine Met.ofW (cc := cX4_about) (maxL := 2) (ret := (some .int)) (by decide) rfl ?_
  intro p e s m args below meth c0 s₁ B hml hv
  obtain ⟨rfl, hP, hK, hD0⟩ := hv
  have hx := B.exec
  have hb := B.bytes
  have hr := B.returns
  have hts := atoms_spec (ws := wsX4_about) B.pre
  have hown : s.vm.findClass RX4 = some m.cls := findClass_of_methodNamed B.named
  have hlocks := B.notSynchronized
  have hinX4 : ∀ w ∈ wsX40, w ∈ wsX4_about := fun _ h => List.mem_cons_of_mem _ (List.mem_append_right _ h)
  have lk_90 : (Cond.fieldLink RX4 90 "BallotHouseModel" "voters" "I").before _ s = true := hts _ (by decide +kernel)
  have lk_94 : (Cond.fieldLink RX4 94 "BallotHouseModel" "ballots" "I").before _ s = true := hts _ (by decide +kernel)
  have lk_97 : (Cond.fieldLink RX4 97 "BallotHouseModel" "air" "I").before _ s = true := hts _ (by decide +kernel)
  have lk_100 : (Cond.fieldLink RX4 100 "BallotHouseModel" "lost" "I").before _ s = true := hts _ (by decide +kernel)
  have lk_111 : (Cond.fieldLink RX4 111 "BallotHouseModel" "complete" "I").before _ s = true := hts _ (by decide +kernel)
  have hI : bh_I D (bh_mw h ad c (S)) (fun _ => True) s.heap s.heap [] := ⟨hP, hD0, va_S.rf⟩
  have hl := lv_entry ([.ref h, .int (x)]) (n := 2) (Nat.le_of_ble_eq_true rfl)
  rw [lg_entry_eq]
  generalize (lg_sl ([.ref h, .int (x)]) ++ List.replicate (2 - (lg_sl ([.ref h, .int (x)])).length) Slot.unset).toArray = ls at hl ⊢
  have hl : lv_has ls 2 [(0, .ref h), (1, .int (x))] := hl
  rcases hx1 : bh_ix x 5 with _ | j
  · refine lv_iload_n hx hb dX4_about_0 rfl (lv_at hl 1 rfl) ?_
    refine lv_tableOut (tgt := 61) hx hb dX4_about_1 (by have := bh_ix_none hx1; omega) (by decide) ?_
    refine lv_iconst (v := -1) hx hb dX4_about_61 (by decide) ?_
    exact bn_roti hx hb hr hlocks (by unfold bh_mabo; rw [hx1]) dX4_about_62
  · obtain ⟨hj, rfl⟩ := bh_ix_some hx1
    refine lv_iload_n hx hb dX4_about_0 rfl (lv_at hl 1 rfl) ?_
    rcases (show j = 0 ∨ j = 1 ∨ j = 2 ∨ j = 3 ∨ j = 4 by omega) with rfl | rfl | rfl | rfl | rfl
    · refine lv_tableIn (tgt := 36) hx hb dX4_about_1 (by decide) (by decide) rfl (by decide) ?_
      refine lv_aload_n hx hb dX4_about_36 rfl (lv_at hl 0 rfl) ?_
      refine bn_get (ci := 3) (v := .int (nI (S.1 0))) (C := RX4) (T := TX4) (N := 31) hx hb hts hinX4 hown hK hI 0 rfl rfl 0 (by decide) lk_90 rfl (rfl) dX4_about_37 ?_
      exact bn_roti hx hb hr hlocks (by unfold bh_mabo; rw [hx1]; rfl) dX4_about_40
    · refine lv_tableIn (tgt := 41) hx hb dX4_about_1 (by decide) (by decide) rfl (by decide) ?_
      refine lv_aload_n hx hb dX4_about_41 rfl (lv_at hl 0 rfl) ?_
      refine bn_get (ci := 3) (v := .int (nI (S.1 18))) (C := RX4) (T := TX4) (N := 31) hx hb hts hinX4 hown hK hI 0 rfl rfl 18 (by decide) lk_94 rfl (rfl) dX4_about_42 ?_
      exact bn_roti hx hb hr hlocks (by unfold bh_mabo; rw [hx1]; rfl) dX4_about_45
    · refine lv_tableIn (tgt := 46) hx hb dX4_about_1 (by decide) (by decide) rfl (by decide) ?_
      refine lv_aload_n hx hb dX4_about_46 rfl (lv_at hl 0 rfl) ?_
      refine bn_get (ci := 3) (v := .int (S.2.1 19)) (C := RX4) (T := TX4) (N := 31) hx hb hts hinX4 hown hK hI 0 rfl rfl 19 (by decide) lk_111 rfl (rfl) dX4_about_47 ?_
      exact bn_roti hx hb hr hlocks (by unfold bh_mabo; rw [hx1]; rfl) dX4_about_50
    · refine lv_tableIn (tgt := 51) hx hb dX4_about_1 (by decide) (by decide) rfl (by decide) ?_
      refine lv_aload_n hx hb dX4_about_51 rfl (lv_at hl 0 rfl) ?_
      refine bn_get (ci := 3) (v := .int (nI (S.1 28))) (C := RX4) (T := TX4) (N := 31) hx hb hts hinX4 hown hK hI 0 rfl rfl 28 (by decide) lk_97 rfl (rfl) dX4_about_52 ?_
      exact bn_roti hx hb hr hlocks (by unfold bh_mabo; rw [hx1]; rfl) dX4_about_55
    · refine lv_tableIn (tgt := 56) hx hb dX4_about_1 (by decide) (by decide) rfl (by decide) ?_
      refine lv_aload_n hx hb dX4_about_56 rfl (lv_at hl 0 rfl) ?_
      refine bn_get (ci := 3) (v := .int (S.2.1 20)) (C := RX4) (T := TX4) (N := 31) hx hb hts hinX4 hown hK hI 0 rfl rfl 20 (by decide) lk_100 rfl (rfl) dX4_about_57 ?_
      exact bn_roti hx hb hr hlocks (by unfold bh_mabo; rw [hx1]; rfl) dX4_about_60
set_option maxHeartbeats 4000000 in
set_option maxRecDepth 100000 in
theorem cm_air (l : Launch) (D : va_G) (c : bh_C) (h : Nat) (ad : Nat → Nat) (S : mS) (x y : Int32) (ha : S.1 28 ≤ 400) : Met l yX4_air wsX4_air ({ frames := 0, cells := 0, slots := 0, locals := 0 }) (va_Pc [.ref h, .int (x), .int (y)] (bh_pre D c (bh_mw h ad c (S)))) (vp_Si (fun r => r = bh_mair S x y)) 0 0 (fun _ => False) := by
  refine Met.ofW (cc := cX4_air) (maxL := 5) (ret := (some .int)) (by decide) rfl ?_
  intro p e s m args below meth c0 s₁ B hml hv
  obtain ⟨rfl, hP, hK, hD0⟩ := hv
  have hx := B.exec
  have hb := B.bytes
  have hr := B.returns
  have hts := atoms_spec (ws := wsX4_air) B.pre
  have hown : s.vm.findClass RX4 = some m.cls := findClass_of_methodNamed B.named
  have hlocks := B.notSynchronized
  have hinX4 : ∀ w ∈ wsX40, w ∈ wsX4_air := fun _ h => List.mem_cons_of_mem _ (List.mem_append_right _ h)
  have lk_63 : (Cond.fieldLink RX4 63 "BallotHouseModel" "airKind" "[I").before _ s = true := hts _ (by decide +kernel)
  have lk_66 : (Cond.fieldLink RX4 66 "BallotHouseModel" "airBallot" "[I").before _ s = true := hts _ (by decide +kernel)
  have lk_69 : (Cond.fieldLink RX4 69 "BallotHouseModel" "airVoter" "[I").before _ s = true := hts _ (by decide +kernel)
  have lk_72 : (Cond.fieldLink RX4 72 "BallotHouseModel" "airPlace" "[I").before _ s = true := hts _ (by decide +kernel)
  have lk_75 : (Cond.fieldLink RX4 75 "BallotHouseModel" "airVote" "[I").before _ s = true := hts _ (by decide +kernel)
  have lk_97 : (Cond.fieldLink RX4 97 "BallotHouseModel" "air" "I").before _ s = true := hts _ (by decide +kernel)
  have hI : bh_I D (bh_mw h ad c (S)) (fun _ => True) s.heap s.heap [] := ⟨hP, hD0, va_S.rf⟩
  have hl := lv_entry ([.ref h, .int (x), .int (y)]) (n := 5) (Nat.le_of_ble_eq_true rfl)
  rw [lg_entry_eq]
  generalize (lg_sl ([.ref h, .int (x), .int (y)]) ++ List.replicate (5 - (lg_sl ([.ref h, .int (x), .int (y)])).length) Slot.unset).toArray = ls at hl ⊢
  have hl : lv_has ls 5 [(0, .ref h), (1, .int (x)), (2, .int (y))] := hl
  rcases hx1 : bh_ix x (S.1 28) with _ | k
  · refine lv_iload_n hx hb dX4_air_0 rfl (lv_at hl 1 rfl) ?_
    refine lv_if_lt (tgt := 12) hx hb dX4_air_1 (by decide) (fun c_1 => ?_) (fun c_1 => ?_)
    · refine lv_iconst (v := -1) hx hb dX4_air_12 (by decide) ?_
      exact bn_roti hx hb hr hlocks (by unfold bh_mair; rw [hx1]) dX4_air_13
    · refine lv_iload_n hx hb dX4_air_4 rfl (lv_at hl 1 rfl) ?_
      refine lv_aload_n hx hb dX4_air_5 rfl (lv_at hl 0 rfl) ?_
      refine bn_get (ci := 3) (v := .int (nI (S.1 28))) (C := RX4) (T := TX4) (N := 31) hx hb hts hinX4 hown hK hI 0 rfl rfl 28 (by decide) lk_97 rfl (rfl) dX4_air_6 ?_
      refine lv_icmp_lt (tgt := 14) hx hb dX4_air_9 (by decide) (fun c_2 => ?_) (fun c_2 => ?_)
      · exfalso
        have q1 := bh_ix_none hx1
        have q2 := c_1
        have q3 := c_2
        simp only [bh_ltI, bh_leI, bh_t0, nI_toInt (show S.1 28 < 2 ^ 31 by omega)] at q2 q3
        omega
      · refine lv_iconst (v := -1) hx hb dX4_air_12 (by decide) ?_
        exact bn_roti hx hb hr hlocks (by unfold bh_mair; rw [hx1]) dX4_air_13
  · obtain ⟨hk, rfl⟩ := bh_ix_some hx1
    refine lv_iload_n hx hb dX4_air_0 rfl (lv_at hl 1 rfl) ?_
    refine lv_if_lt (tgt := 12) hx hb dX4_air_1 (by decide) (fun c_3 => ?_) (fun c_3 => ?_)
    · exact absurd c_3 (nI_pos (by omega))
    · refine lv_iload_n hx hb dX4_air_4 rfl (lv_at hl 1 rfl) ?_
      refine lv_aload_n hx hb dX4_air_5 rfl (lv_at hl 0 rfl) ?_
      refine bn_get (ci := 3) (v := .int (nI (S.1 28))) (C := RX4) (T := TX4) (N := 31) hx hb hts hinX4 hown hK hI 0 rfl rfl 28 (by decide) lk_97 rfl (rfl) dX4_air_6 ?_
      refine bn_cmp_lt (tgt := 14) hx hb (by omega) (by omega) dX4_air_9 (by decide) (fun c_4 => ?_) (fun c_4 => ?_)
      · rcases hx2 : bh_ix y 5 with _ | j
        · refine lv_iload_n hx hb dX4_air_14 rfl (lv_at hl 2 rfl) ?_
          refine lv_tableOut (tgt := 122) hx hb dX4_air_15 (by have := bh_ix_none hx2; omega) (by decide) ?_
          refine lv_iconst (v := -1) hx hb dX4_air_122 (by decide) ?_
          exact bn_roti hx hb hr hlocks (by unfold bh_mair; rw [hx1]; dsimp only; rw [hx2]) dX4_air_123
        · obtain ⟨hj, rfl⟩ := bh_ix_some hx2
          refine lv_iload_n hx hb dX4_air_14 rfl (lv_at hl 2 rfl) ?_
          rcases (show j = 0 ∨ j = 1 ∨ j = 2 ∨ j = 3 ∨ j = 4 by omega) with rfl | rfl | rfl | rfl | rfl
          · refine lv_tableIn (tgt := 48) hx hb dX4_air_15 (by decide) (by decide) rfl (by decide) ?_
            refine lv_aload_n hx hb dX4_air_48 rfl (lv_at hl 0 rfl) ?_
            refine bn_get (ci := 3) (v := .ref (ad 21)) (C := RX4) (T := TX4) (N := 31) hx hb hts hinX4 hown hK hI 0 rfl rfl 21 (by decide) lk_63 rfl (rfl) dX4_air_49 ?_
            refine lv_iload_n hx hb dX4_air_52 rfl (lv_at hl 1 rfl) ?_
            refine bn_iald (n := 400) (v := S.2.2.1 21 k) hx hb hK hI 18 0 rfl rfl (by omega) (by first | decide | omega) (rfl) dX4_air_53 ?_
            exact bn_roti hx hb hr hlocks (by unfold bh_mair; rw [hx1]; dsimp only; rw [hx2]; rfl) dX4_air_54
          · refine lv_tableIn (tgt := 55) hx hb dX4_air_15 (by decide) (by decide) rfl (by decide) ?_
            refine lv_aload_n hx hb dX4_air_55 rfl (lv_at hl 0 rfl) ?_
            refine bn_get (ci := 3) (v := .ref (ad 22)) (C := RX4) (T := TX4) (N := 31) hx hb hts hinX4 hown hK hI 0 rfl rfl 22 (by decide) lk_66 rfl (rfl) dX4_air_56 ?_
            refine lv_iload_n hx hb dX4_air_59 rfl (lv_at hl 1 rfl) ?_
            refine bn_iald (n := 400) (v := S.2.2.1 22 k) hx hb hK hI 19 0 rfl rfl (by omega) (by first | decide | omega) (rfl) dX4_air_60 ?_
            exact bn_roti hx hb hr hlocks (by unfold bh_mair; rw [hx1]; dsimp only; rw [hx2]; rfl) dX4_air_61
          · refine lv_tableIn (tgt := 62) hx hb dX4_air_15 (by decide) (by decide) rfl (by decide) ?_
            refine lv_aload_n hx hb dX4_air_62 rfl (lv_at hl 0 rfl) ?_
            refine bn_get (ci := 3) (v := .ref (ad 23)) (C := RX4) (T := TX4) (N := 31) hx hb hts hinX4 hown hK hI 0 rfl rfl 23 (by decide) lk_69 rfl (rfl) dX4_air_63 ?_
            refine lv_iload_n hx hb dX4_air_66 rfl (lv_at hl 1 rfl) ?_
            refine bn_iald (n := 400) (v := S.2.2.1 23 k) hx hb hK hI 20 0 rfl rfl (by omega) (by first | decide | omega) (rfl) dX4_air_67 ?_
            exact bn_roti hx hb hr hlocks (by unfold bh_mair; rw [hx1]; dsimp only; rw [hx2]; rfl) dX4_air_68
          · refine lv_tableIn (tgt := 69) hx hb dX4_air_15 (by decide) (by decide) rfl (by decide) ?_
            refine lv_aload_n hx hb dX4_air_69 rfl (lv_at hl 0 rfl) ?_
            refine bn_get (ci := 3) (v := .ref (ad 24)) (C := RX4) (T := TX4) (N := 31) hx hb hts hinX4 hown hK hI 0 rfl rfl 24 (by decide) lk_72 rfl (rfl) dX4_air_70 ?_
            refine lv_iload_n hx hb dX4_air_73 rfl (lv_at hl 1 rfl) ?_
            refine bn_iald (n := 400) (v := S.2.2.1 24 k) hx hb hK hI 21 0 rfl rfl (by omega) (by first | decide | omega) (rfl) dX4_air_74 ?_
            exact bn_roti hx hb hr hlocks (by unfold bh_mair; rw [hx1]; dsimp only; rw [hx2]; rfl) dX4_air_75
          · refine lv_tableIn (tgt := 76) hx hb dX4_air_15 (by decide) (by decide) rfl (by decide) ?_
            refine lv_iconst (v := nI 0) hx hb dX4_air_76 (by decide) ?_
            refine lv_istore_n (lv' := [(3, .int (nI 0)), (0, .ref h), (1, .int (nI k)), (2, .int (nI 4))]) hx hb dX4_air_77 rfl hl (by decide) rfl (fun ls hl => ?_)
            refine lv_iconst (v := nI 0) hx hb dX4_air_78 (by decide) ?_
            refine lv_istore (lv' := [(4, .int (nI 0)), (3, .int (nI 0)), (0, .ref h), (1, .int (nI k)), (2, .int (nI 4))]) hx hb dX4_air_79 hl (by decide) rfl (fun ls hl => ?_)
            refine bh_loop (σ := Nat) (fun (q : Nat) H locs ls => H = s.heap ∧ locs = [] ∧ q ≤ 8 ∧ lv_has ls 5 [(4, .int (nI q)), (3, .int (bh_abL S k q)), (0, .ref h), (1, .int (nI k))]) (fun (q : Nat) => 8 - q) (fun q H locs ls hx_5 ih_5 => ?_) 0 _ _ _ ⟨rfl, rfl, Nat.zero_le 8, lv_sub hl [0, 1, 2, 3] rfl⟩
            clear hl
            obtain ⟨rfl, rfl, hq, hl⟩ := hx_5
            refine lv_iload hx hb dX4_air_81 (lv_at hl 0 rfl) ?_
            refine lv_bipush (v := nI 8) hx hb dX4_air_83 (by decide) ?_
            refine bn_cmp_ge (tgt := 120) hx hb (by omega) (by omega) dX4_air_85 (by decide) (fun c_6 => ?_) (fun c_6 => ?_)
            · refine lv_iload_n hx hb dX4_air_120 rfl (lv_at hl 1 rfl) ?_
              exact bn_roti hx hb hr hlocks (by unfold bh_mair; rw [hx1]; dsimp only; rw [hx2]; show _ = bh_abL S k 8; rw [show q = 8 by omega]) dX4_air_121
            · refine lv_iload_n hx hb dX4_air_88 rfl (lv_at hl 1 rfl) ?_
              refine lv_aload_n hx hb dX4_air_89 rfl (lv_at hl 2 rfl) ?_
              refine bn_get (ci := 3) (v := .ref (ad 25)) (C := RX4) (T := TX4) (N := 31) hx hb hts hinX4 hown hK hI 0 rfl rfl 25 (by decide) lk_75 rfl (rfl) dX4_air_90 ?_
              refine lv_bipush (v := nI 8) hx hb dX4_air_93 (by decide) ?_
              refine lv_iload_n hx hb dX4_air_95 rfl (lv_at hl 3 rfl) ?_
              refine bn_imul hx hb dX4_air_96 ?_
              refine lv_iload hx hb dX4_air_97 (lv_at hl 0 rfl) ?_
              refine bn_iadd hx hb dX4_air_99 ?_
              refine bn_iald (n := 3200) (v := S.2.2.1 25 ((8 * k) + q)) hx hb hK hI 22 0 rfl rfl (by omega) (by first | decide | omega) (rfl) dX4_air_100 ?_
              refine lv_if_le (tgt := 111) hx hb dX4_air_101 (by decide) (fun c_7 => ?_) (fun c_7 => ?_)
              · refine lv_iconst (v := nI 0) hx hb dX4_air_111 (by decide) ?_
                refine lv_topi (fun z_8 ez_8 => ?_)
                obtain rfl : z_8 = if 0 < S.2.2.1 25 (8 * k + q) then bh_bit q else nI 0 := ez_8.trans ((if_neg (Int32.not_lt.mpr c_7)).symm)
                refine lv_ior hx hb dX4_air_112 ?_
                refine lv_istore_n (lv' := [(3, .int ((bh_abL S k q) ||| (if 0 < S.2.2.1 25 (8 * k + q) then bh_bit q else nI 0))), (4, .int (nI q)), (0, .ref h), (1, .int (nI k))]) hx hb dX4_air_113 rfl hl (by decide) rfl (fun ls hl => ?_)
                refine lv_iinc (v := nI (q + 1)) (lv' := [(4, .int (nI (q + 1))), (3, .int ((bh_abL S k q) ||| (if 0 < S.2.2.1 25 (8 * k + q) then bh_bit q else nI 0))), (0, .ref h), (1, .int (nI k))]) hx hb dX4_air_114 hl (k := 1) rfl (nI_1 _) (by decide) rfl (fun ls hl => ?_)
                refine lv_goto (tgt := 81) hx hb dX4_air_117 (by decide) ?_
                exact ih_5 (q + 1) _ _ _ ⟨rfl, rfl, by omega, lv_sub hl [0, 1, 2, 3] rfl⟩ (by show 8 - (q + 1) < 8 - q; omega)
              · refine lv_iconst (v := nI 1) hx hb dX4_air_104 (by decide) ?_
                refine lv_iload hx hb dX4_air_105 (lv_at hl 0 rfl) ?_
                refine lv_ishl hx hb dX4_air_107 ?_
                refine lv_topi (fun z_9 ez_9 => ?_)
                obtain rfl : z_9 = if 0 < S.2.2.1 25 (8 * k + q) then bh_bit q else nI 0 := ez_9.trans ((if_pos (Int32.not_le.mp c_7)).symm)
                refine lv_goto (tgt := 112) hx hb dX4_air_108 (by decide) ?_
                refine lv_ior hx hb dX4_air_112 ?_
                refine lv_istore_n (lv' := [(3, .int ((bh_abL S k q) ||| (if 0 < S.2.2.1 25 (8 * k + q) then bh_bit q else nI 0))), (4, .int (nI q)), (0, .ref h), (1, .int (nI k))]) hx hb dX4_air_113 rfl hl (by decide) rfl (fun ls hl => ?_)
                refine lv_iinc (v := nI (q + 1)) (lv' := [(4, .int (nI (q + 1))), (3, .int ((bh_abL S k q) ||| (if 0 < S.2.2.1 25 (8 * k + q) then bh_bit q else nI 0))), (0, .ref h), (1, .int (nI k))]) hx hb dX4_air_114 hl (k := 1) rfl (nI_1 _) (by decide) rfl (fun ls hl => ?_)
                refine lv_goto (tgt := 81) hx hb dX4_air_117 (by decide) ?_
                exact ih_5 (q + 1) _ _ _ ⟨rfl, rfl, by omega, lv_sub hl [0, 1, 2, 3] rfl⟩ (by show 8 - (q + 1) < 8 - q; omega)
      · exact absurd c_4 (by omega)
set_option maxHeartbeats 4000000 in
set_option maxRecDepth 100000 in
theorem cm_isChosen (l : Launch) (D : va_G) (c : bh_C) (h : Nat) (ad : Nat → Nat) (S : mS) (b q : Nat) (h24 : b ≤ 24) (hq : q < 8) : Met l yX4_isChosen wsX4_isChosen ({ frames := 1, cells := 0, slots := 0, locals := 22 }) (va_Pc [.ref h, .int (nI b), .int (nI q)] (bh_pre D c (bh_mw h ad c (S)))) (vp_Si (fun r => r = bh_tf (bh_cho S b q))) 0 0 (fun _ => False) := by
  refine Met.ofW (cc := cX4_isChosen) (maxL := 3) (ret := (some .boolean)) (by decide) rfl ?_
  intro p e s m args below meth c0 s₁ B hml hv
  obtain ⟨rfl, hP, hK, hD0⟩ := hv
  have hx := B.exec
  have hb := B.bytes
  have hr := B.returns
  have hts := atoms_spec (ws := wsX4_isChosen) B.pre
  have hown : s.vm.findClass RX4 = some m.cls := findClass_of_methodNamed B.named
  have hlocks := B.notSynchronized
  have hinX4 : ∀ w ∈ wsX40, w ∈ wsX4_isChosen := fun _ h => List.mem_cons_of_mem _ (List.mem_append_right _ h)
  have lk_27 : (Cond.fieldLink RX4 27 "BallotHouseModel" "members" "[I").before _ s = true := hts _ (by decide +kernel)
  have lk_33 : (Cond.fieldLink RX4 33 "BallotHouseModel" "writes" "[I").before _ s = true := hts _ (by decide +kernel)
  have lk_57 : (Cond.fieldLink RX4 57 "BallotHouseModel" "voted" "[I").before _ s = true := hts _ (by decide +kernel)
  have hI : bh_I D (bh_mw h ad c (S)) (fun _ => True) s.heap s.heap [] := ⟨hP, hD0, va_S.rf⟩
  have hl := lv_entry ([.ref h, .int (nI b), .int (nI q)]) (n := 3) (Nat.le_of_ble_eq_true rfl)
  rw [lg_entry_eq]
  generalize (lg_sl ([.ref h, .int (nI b), .int (nI q)]) ++ List.replicate (3 - (lg_sl ([.ref h, .int (nI b), .int (nI q)])).length) Slot.unset).toArray = ls at hl ⊢
  have hl : lv_has ls 3 [(0, .ref h), (1, .int (nI b)), (2, .int (nI q))] := hl
  refine lv_aload_n hx hb dX4_isChosen_0 rfl (lv_at hl 0 rfl) ?_
  refine bn_get (ci := 3) (v := .ref (ad 16)) (C := RX4) (T := TX4) (N := 31) hx hb hts hinX4 hown hK hI 0 rfl rfl 16 (by decide) lk_57 rfl (rfl) dX4_isChosen_1 ?_
  refine lv_bipush (v := nI 8) hx hb dX4_isChosen_4 (by decide) ?_
  refine lv_iload_n hx hb dX4_isChosen_6 rfl (lv_at hl 1 rfl) ?_
  refine bn_imul hx hb dX4_isChosen_7 ?_
  refine lv_iload_n hx hb dX4_isChosen_8 rfl (lv_at hl 2 rfl) ?_
  refine bn_iadd hx hb dX4_isChosen_9 ?_
  refine bn_iald (n := 200) (v := S.2.2.1 16 ((8 * b) + q)) hx hb hK hI 16 0 rfl rfl (by omega) (by first | decide | omega) (rfl) dX4_isChosen_10 ?_
  refine lv_aload_n hx hb dX4_isChosen_11 rfl (lv_at hl 0 rfl) ?_
  refine bn_get (ci := 3) (v := .ref (ad 6)) (C := RX4) (T := TX4) (N := 31) hx hb hts hinX4 hown hK hI 0 rfl rfl 6 (by decide) lk_27 rfl (rfl) dX4_isChosen_12 ?_
  refine lv_iload_n hx hb dX4_isChosen_15 rfl (lv_at hl 1 rfl) ?_
  refine bn_iald (n := 25) (v := S.2.2.1 6 b) hx hb hK hI 6 0 rfl rfl (by omega) (by first | decide | omega) (rfl) dX4_isChosen_16 ?_
  refine lv_iand hx hb dX4_isChosen_17 ?_
  refine vp_callSi (bn_roS (As := [.int ((S.2.2.1 16 ((8 * b) + q)) &&& (S.2.2.1 6 b))]) (rest := []) ⟨hx, hb, hml, hown, hts⟩ (cm_many l (S.2.2.1 16 (8 * b + q) &&& S.2.2.1 6 b)) (va_cwS 1 hts gX4_isChosen_X4_many rfl rfl rfl (by decide +kernel) ⟨Nat.le_of_ble_eq_true rfl, Nat.le_of_ble_eq_true rfl⟩) rfl hl.1 (Nat.le_of_ble_eq_true rfl) dX4_isChosen_18 ⟨Nat.le_of_ble_eq_true rfl, Nat.le_of_ble_eq_true rfl⟩) (fun r_1 er_1 => ?_)
  subst er_1
  refine lv_aload_n hx hb dX4_isChosen_21 rfl (lv_at hl 0 rfl) ?_
  refine bn_get (ci := 3) (v := .ref (ad 8)) (C := RX4) (T := TX4) (N := 31) hx hb hts hinX4 hown hK hI 0 rfl rfl 8 (by decide) lk_33 rfl (rfl) dX4_isChosen_22 ?_
  refine lv_iload_n hx hb dX4_isChosen_25 rfl (lv_at hl 1 rfl) ?_
  refine bn_iald (n := 25) (v := S.2.2.1 8 b) hx hb hK hI 8 0 rfl rfl (by omega) (by first | decide | omega) (rfl) dX4_isChosen_26 ?_
  refine lv_icmp_lt (tgt := 34) hx hb dX4_isChosen_27 (by decide) (fun c_2 => ?_) (fun c_2 => ?_)
  · refine lv_iconst (v := nI 0) hx hb dX4_isChosen_34 (by decide) ?_
    exact bn_rotz hx hb hr hlocks (by unfold bh_cho; rw [decide_eq_false (Int32.not_le.mpr c_2)]; rfl) (by decide) dX4_isChosen_35
  · refine lv_iconst (v := nI 1) hx hb dX4_isChosen_30 (by decide) ?_
    refine lv_goto (tgt := 35) hx hb dX4_isChosen_31 (by decide) ?_
    exact bn_rotz hx hb hr hlocks (by unfold bh_cho; rw [decide_eq_true (Int32.not_lt.mp c_2)]; rfl) (by decide) dX4_isChosen_35
set_option maxHeartbeats 4000000 in
set_option maxRecDepth 100000 in
theorem cm_chosen (l : Launch) (D : va_G) (c : bh_C) (h : Nat) (ad : Nat → Nat) (S : mS) (x : Int32) (hk24 : S.1 18 ≤ 24) : Met l yX4_chosen wsX4_chosen ({ frames := 2, cells := 0, slots := 0, locals := 44 }) (va_Pc [.ref h, .int (x)] (bh_pre D c (bh_mw h ad c (S)))) (vp_Si (fun r => r = bh_mcho S x)) 0 0 (fun _ => False) := by
  refine Met.ofW (cc := cX4_chosen) (maxL := 3) (ret := (some .int)) (by decide) rfl ?_
  intro p e s m args below meth c0 s₁ B hml hv
  obtain ⟨rfl, hP, hK, hD0⟩ := hv
  have hx := B.exec
  have hb := B.bytes
  have hr := B.returns
  have hts := atoms_spec (ws := wsX4_chosen) B.pre
  have hown : s.vm.findClass RX4 = some m.cls := findClass_of_methodNamed B.named
  have hlocks := B.notSynchronized
  have hinX4 : ∀ w ∈ wsX40, w ∈ wsX4_chosen := fun _ h => List.mem_cons_of_mem _ (List.mem_append_right _ h)
  have lk_94 : (Cond.fieldLink RX4 94 "BallotHouseModel" "ballots" "I").before _ s = true := hts _ (by decide +kernel)
  have hI : bh_I D (bh_mw h ad c (S)) (fun _ => True) s.heap s.heap [] := ⟨hP, hD0, va_S.rf⟩
  have hl := lv_entry ([.ref h, .int (x)]) (n := 3) (Nat.le_of_ble_eq_true rfl)
  rw [lg_entry_eq]
  generalize (lg_sl ([.ref h, .int (x)]) ++ List.replicate (3 - (lg_sl ([.ref h, .int (x)])).length) Slot.unset).toArray = ls at hl ⊢
  have hl : lv_has ls 3 [(0, .ref h), (1, .int (x))] := hl
  rcases hx1 : bh_ix x 8 with _ | q
  · refine lv_iconst (v := nI 1) hx hb dX4_chosen_0 (by decide) ?_
    refine lv_istore_n (lv' := [(2, .int (nI 1)), (0, .ref h), (1, .int (x))]) hx hb dX4_chosen_1 rfl hl (by decide) rfl (fun ls hl => ?_)
    refine lv_iload_n hx hb dX4_chosen_2 rfl (lv_at hl 0 rfl) ?_
    refine lv_aload_n hx hb dX4_chosen_3 rfl (lv_at hl 1 rfl) ?_
    refine bn_get (ci := 3) (v := .int (nI (S.1 18))) (C := RX4) (T := TX4) (N := 31) hx hb hts hinX4 hown hK hI 0 rfl rfl 18 (by decide) lk_94 rfl (rfl) dX4_chosen_4 ?_
    refine bn_cmp_gt (tgt := 34) hx hb (by omega) (by omega) dX4_chosen_7 (by decide) (fun c_1 => ?_) (fun c_1 => ?_)
    · refine lv_iconst (v := -1) hx hb dX4_chosen_34 (by decide) ?_
      exact bn_roti hx hb hr hlocks (by unfold bh_mcho; rw [hx1]) dX4_chosen_35
    · refine lv_iload_n hx hb dX4_chosen_10 rfl (lv_at hl 2 rfl) ?_
      refine vp_callSi (bn_roS (As := [.int (x)]) (rest := []) ⟨hx, hb, hml, hown, hts⟩ (cm_isPlace l (x)) (va_cwS 1 hts gX4_chosen_X4_isPlace rfl rfl rfl (by decide +kernel) ⟨Nat.le_of_ble_eq_true rfl, Nat.le_of_ble_eq_true rfl⟩) rfl hl.1 (Nat.le_of_ble_eq_true rfl) dX4_chosen_11 ⟨Nat.le_of_ble_eq_true rfl, Nat.le_of_ble_eq_true rfl⟩) (fun r_2 er_2 => ?_)
      obtain rfl : r_2 = nI 0 := by rw [er_2, hx1]; rfl
      refine lv_if_eq (tgt := 34) hx hb dX4_chosen_14 (by decide) (fun c_3 => ?_) (fun c_3 => ?_)
      · refine lv_iconst (v := -1) hx hb dX4_chosen_34 (by decide) ?_
        exact bn_roti hx hb hr hlocks (by unfold bh_mcho; rw [hx1]) dX4_chosen_35
      · first | exact absurd c_3 (by decide) | exact absurd (by decide) c_3
  · obtain ⟨hq, rfl⟩ := bh_ix_some hx1
    refine lv_iconst (v := nI 1) hx hb dX4_chosen_0 (by decide) ?_
    refine lv_istore_n (lv' := [(2, .int (nI 1)), (0, .ref h), (1, .int (nI q))]) hx hb dX4_chosen_1 rfl hl (by decide) rfl (fun ls hl => ?_)
    refine bh_loop (σ := Nat) (fun (b : Nat) H locs ls => H = s.heap ∧ locs = [] ∧ (1 ≤ b ∧ b ≤ S.1 18 + 1) ∧ bh_chL S q (S.1 18 + 1 - b) b = bh_ch S q ∧ lv_has ls 3 [(2, .int (nI b)), (0, .ref h), (1, .int (nI q))]) (fun (b : Nat) => S.1 18 + 1 - b) (fun b H locs ls hx_4 ih_4 => ?_) 1 _ _ _ ⟨rfl, rfl, ⟨Nat.le_refl 1, by omega⟩, rfl, lv_sub hl [0, 1, 2] rfl⟩
    clear hl
    obtain ⟨rfl, rfl, hb1, hch, hl⟩ := hx_4
    refine lv_iload_n hx hb dX4_chosen_2 rfl (lv_at hl 0 rfl) ?_
    refine lv_aload_n hx hb dX4_chosen_3 rfl (lv_at hl 1 rfl) ?_
    refine bn_get (ci := 3) (v := .int (nI (S.1 18))) (C := RX4) (T := TX4) (N := 31) hx hb hts hinX4 hown hK hI 0 rfl rfl 18 (by decide) lk_94 rfl (rfl) dX4_chosen_4 ?_
    refine bn_cmp_gt (tgt := 34) hx hb (by omega) (by omega) dX4_chosen_7 (by decide) (fun c_5 => ?_) (fun c_5 => ?_)
    · refine lv_iconst (v := -1) hx hb dX4_chosen_34 (by decide) ?_
      exact bn_roti hx hb hr hlocks (by unfold bh_mcho; rw [hx1]; show _ = bh_oi (bh_ch S q); rw [← hch, show S.1 18 + 1 - b = 0 by omega]; rfl) dX4_chosen_35
    · refine lv_iload_n hx hb dX4_chosen_10 rfl (lv_at hl 2 rfl) ?_
      refine vp_callSi (bn_roS (As := [.int (nI q)]) (rest := []) ⟨hx, hb, hml, hown, hts⟩ (cm_isPlace l (nI q)) (va_cwS 1 hts gX4_chosen_X4_isPlace rfl rfl rfl (by decide +kernel) ⟨Nat.le_of_ble_eq_true rfl, Nat.le_of_ble_eq_true rfl⟩) rfl hl.1 (Nat.le_of_ble_eq_true rfl) dX4_chosen_11 ⟨Nat.le_of_ble_eq_true rfl, Nat.le_of_ble_eq_true rfl⟩) (fun r_6 er_6 => ?_)
      obtain rfl : r_6 = nI 1 := by rw [er_6, hx1]; rfl
      refine lv_if_eq (tgt := 34) hx hb dX4_chosen_14 (by decide) (fun c_7 => ?_) (fun c_7 => ?_)
      · first | exact absurd c_7 (by decide) | exact absurd (by decide) c_7
      · refine lv_aload_n hx hb dX4_chosen_17 rfl (lv_at hl 1 rfl) ?_
        refine lv_iload_n hx hb dX4_chosen_18 rfl (lv_at hl 0 rfl) ?_
        refine lv_iload_n hx hb dX4_chosen_19 rfl (lv_at hl 2 rfl) ?_
        refine vp_callSi (bn_roV (As := [.int (nI b), .int (nI q)]) (rest := []) ⟨hx, hb, hml, hown, hts⟩ (cm_isChosen l D c h ad S (b) q (by omega) hq) (cwV 2 hts gX4_chosen_X4_isChosen rfl rfl rfl (by decide +kernel) ⟨Nat.le_of_ble_eq_true rfl, Nat.le_of_ble_eq_true rfl⟩) hK hI 0 3 rfl rfl rfl rfl hl.1 (Nat.le_of_ble_eq_true rfl) dX4_chosen_20 ⟨Nat.le_of_ble_eq_true rfl, Nat.le_of_ble_eq_true rfl⟩) (fun r_8 er_8 => ?_)
        subst er_8
        refine lv_if_eq (tgt := 28) hx hb dX4_chosen_23 (by decide) (fun c_9 => ?_) (fun c_9 => ?_)
        · have q_1 := c_9
          refine lv_iinc (v := nI (b + 1)) (lv' := [(2, .int (nI (b + 1))), (0, .ref h), (1, .int (nI q))]) hx hb dX4_chosen_28 hl (k := 0) rfl (nI_1 _) (by decide) rfl (fun ls hl => ?_)
          refine lv_goto (tgt := 2) hx hb dX4_chosen_31 (by decide) ?_
          exact ih_4 (b + 1) _ _ _ ⟨rfl, rfl, ⟨by omega, by omega⟩, by rw [← hch, show S.1 18 + 1 - b = (S.1 18 + 1 - (b + 1)) + 1 by omega]; exact (if_neg (by rw [bh_tf_eq q_1]; decide)).symm, lv_sub hl [0, 1, 2] rfl⟩ (by show S.1 18 + 1 - (b + 1) < S.1 18 + 1 - b; omega)
        · have q_1 := bh_tf_ne c_9
          refine lv_iload_n hx hb dX4_chosen_26 rfl (lv_at hl 0 rfl) ?_
          exact bn_roti hx hb hr hlocks (by unfold bh_mcho; rw [hx1]; show _ = bh_oi (bh_ch S q); rw [← hch, show S.1 18 + 1 - b = (S.1 18 - b) + 1 by omega, show bh_chL S q (S.1 18 - b + 1) b = some b from if_pos q_1]; rfl) dX4_chosen_27
set_option maxHeartbeats 4000000 in
set_option maxRecDepth 100000 in
theorem cm_chosenValue (l : Launch) (D : va_G) (c : bh_C) (h : Nat) (ad : Nat → Nat) (S : mS) (x : Int32) (hk24 : S.1 18 ≤ 24) : Met l yX4_chosenValue wsX4_chosenValue ({ frames := 3, cells := 0, slots := 0, locals := 66 }) (va_Pc [.ref h, .int (x)] (bh_pre D c (bh_mw h ad c (S)))) (vp_Sl (fun r => r = bh_mchv S x)) 0 0 (fun _ => False) := by
  refine Met.ofW (cc := cX4_chosenValue) (maxL := 3) (ret := (some .long)) (by decide) rfl ?_
  intro p e s m args below meth c0 s₁ B hml hv
  obtain ⟨rfl, hP, hK, hD0⟩ := hv
  have hx := B.exec
  have hb := B.bytes
  have hr := B.returns
  have hts := atoms_spec (ws := wsX4_chosenValue) B.pre
  have hown : s.vm.findClass RX4 = some m.cls := findClass_of_methodNamed B.named
  have hlocks := B.notSynchronized
  have hinX4 : ∀ w ∈ wsX40, w ∈ wsX4_chosenValue := fun _ h => List.mem_cons_of_mem _ (List.mem_append_right _ h)
  have lk_60 : (Cond.fieldLink RX4 60 "BallotHouseModel" "says" "[J").before _ s = true := hts _ (by decide +kernel)
  have hI : bh_I D (bh_mw h ad c (S)) (fun _ => True) s.heap s.heap [] := ⟨hP, hD0, va_S.rf⟩
  have hl := lv_entry ([.ref h, .int (x)]) (n := 3) (Nat.le_of_ble_eq_true rfl)
  rw [lg_entry_eq]
  generalize (lg_sl ([.ref h, .int (x)]) ++ List.replicate (3 - (lg_sl ([.ref h, .int (x)])).length) Slot.unset).toArray = ls at hl ⊢
  have hl : lv_has ls 3 [(0, .ref h), (1, .int (x))] := hl
  rcases hx1 : bh_ix x 8 with _ | q
  · refine lv_aload_n hx hb dX4_chosenValue_0 rfl (lv_at hl 0 rfl) ?_
    refine lv_iload_n hx hb dX4_chosenValue_1 rfl (lv_at hl 1 rfl) ?_
    refine vp_callSi (bn_roV (As := [.int (x)]) (rest := []) ⟨hx, hb, hml, hown, hts⟩ (cm_chosen l D c h ad S (x) hk24) (cwV 1 hts gX4_chosenValue_X4_chosen rfl rfl rfl (by decide +kernel) ⟨Nat.le_of_ble_eq_true rfl, Nat.le_of_ble_eq_true rfl⟩) hK hI 0 3 rfl rfl rfl rfl hl.1 (Nat.le_of_ble_eq_true rfl) dX4_chosenValue_2 ⟨Nat.le_of_ble_eq_true rfl, Nat.le_of_ble_eq_true rfl⟩) (fun r_1 er_1 => ?_)
    obtain rfl : r_1 = -1 := by rw [er_1]; unfold bh_mcho; rw [hx1]
    refine lv_istore_n (lv' := [(2, .int (-1)), (0, .ref h), (1, .int (x))]) hx hb dX4_chosenValue_5 rfl hl (by decide) rfl (fun ls hl => ?_)
    refine lv_iload_n hx hb dX4_chosenValue_6 rfl (lv_at hl 0 rfl) ?_
    refine lv_if_ge (tgt := 14) hx hb dX4_chosenValue_7 (by decide) (fun c_2 => ?_) (fun c_2 => ?_)
    · exact absurd c_2 (by decide)
    · refine lv_lconst (v := 0) hx hb dX4_chosenValue_10 (by decide) ?_
      refine lv_goto (tgt := 25) hx hb dX4_chosenValue_11 (by decide) ?_
      exact bn_rotl hx hb hr hlocks (by unfold bh_mchv; rw [hx1]) dX4_chosenValue_25
  · obtain ⟨hq, rfl⟩ := bh_ix_some hx1
    refine lv_aload_n hx hb dX4_chosenValue_0 rfl (lv_at hl 0 rfl) ?_
    rcases hch : bh_ch S q with _ | b
    · refine lv_iload_n hx hb dX4_chosenValue_1 rfl (lv_at hl 1 rfl) ?_
      refine vp_callSi (bn_roV (As := [.int (nI q)]) (rest := []) ⟨hx, hb, hml, hown, hts⟩ (cm_chosen l D c h ad S (nI q) hk24) (cwV 1 hts gX4_chosenValue_X4_chosen rfl rfl rfl (by decide +kernel) ⟨Nat.le_of_ble_eq_true rfl, Nat.le_of_ble_eq_true rfl⟩) hK hI 0 3 rfl rfl rfl rfl hl.1 (Nat.le_of_ble_eq_true rfl) dX4_chosenValue_2 ⟨Nat.le_of_ble_eq_true rfl, Nat.le_of_ble_eq_true rfl⟩) (fun r_3 er_3 => ?_)
      obtain rfl : r_3 = -1 := by rw [er_3]; unfold bh_mcho; rw [hx1]; show bh_oi (bh_ch S q) = _; rw [hch]; rfl
      refine lv_istore_n (lv' := [(2, .int (-1)), (0, .ref h), (1, .int (nI q))]) hx hb dX4_chosenValue_5 rfl hl (by decide) rfl (fun ls hl => ?_)
      refine lv_iload_n hx hb dX4_chosenValue_6 rfl (lv_at hl 0 rfl) ?_
      refine lv_if_ge (tgt := 14) hx hb dX4_chosenValue_7 (by decide) (fun c_4 => ?_) (fun c_4 => ?_)
      · exact absurd c_4 (by decide)
      · refine lv_lconst (v := 0) hx hb dX4_chosenValue_10 (by decide) ?_
        refine lv_goto (tgt := 25) hx hb dX4_chosenValue_11 (by decide) ?_
        exact bn_rotl hx hb hr hlocks (by unfold bh_mchv; rw [hx1]; show _ = bh_chv S q; unfold bh_chv; rw [hch]) dX4_chosenValue_25
    · have hbb := bh_chL_in S q _ _ hch
      refine lv_iload_n hx hb dX4_chosenValue_1 rfl (lv_at hl 1 rfl) ?_
      refine vp_callSi (bn_roV (As := [.int (nI q)]) (rest := []) ⟨hx, hb, hml, hown, hts⟩ (cm_chosen l D c h ad S (nI q) hk24) (cwV 1 hts gX4_chosenValue_X4_chosen rfl rfl rfl (by decide +kernel) ⟨Nat.le_of_ble_eq_true rfl, Nat.le_of_ble_eq_true rfl⟩) hK hI 0 3 rfl rfl rfl rfl hl.1 (Nat.le_of_ble_eq_true rfl) dX4_chosenValue_2 ⟨Nat.le_of_ble_eq_true rfl, Nat.le_of_ble_eq_true rfl⟩) (fun r_5 er_5 => ?_)
      obtain rfl : r_5 = nI b := by rw [er_5]; unfold bh_mcho; rw [hx1]; show bh_oi (bh_ch S q) = _; rw [hch]; rfl
      refine lv_istore_n (lv' := [(2, .int (nI b)), (0, .ref h), (1, .int (nI q))]) hx hb dX4_chosenValue_5 rfl hl (by decide) rfl (fun ls hl => ?_)
      refine lv_iload_n hx hb dX4_chosenValue_6 rfl (lv_at hl 0 rfl) ?_
      refine lv_if_ge (tgt := 14) hx hb dX4_chosenValue_7 (by decide) (fun c_6 => ?_) (fun c_6 => ?_)
      · refine lv_aload_n hx hb dX4_chosenValue_14 rfl (lv_at hl 1 rfl) ?_
        refine bn_get (ci := 3) (v := .ref (ad 17)) (C := RX4) (T := TX4) (N := 31) hx hb hts hinX4 hown hK hI 0 rfl rfl 17 (by decide) lk_60 rfl (rfl) dX4_chosenValue_15 ?_
        refine lv_bipush (v := nI 8) hx hb dX4_chosenValue_18 (by decide) ?_
        refine lv_iload_n hx hb dX4_chosenValue_20 rfl (lv_at hl 0 rfl) ?_
        refine bn_imul hx hb dX4_chosenValue_21 ?_
        refine lv_iload_n hx hb dX4_chosenValue_22 rfl (lv_at hl 2 rfl) ?_
        refine bn_iadd hx hb dX4_chosenValue_23 ?_
        refine bn_lald (n := 200) (v := S.2.2.2 17 ((8 * b) + q)) hx hb hK hI 17 1 rfl rfl (by omega) (by first | decide | omega) (rfl) dX4_chosenValue_24 ?_
        exact bn_rotl hx hb hr hlocks (by unfold bh_mchv; rw [hx1]; show _ = bh_chv S q; unfold bh_chv; rw [hch]) dX4_chosenValue_25
      · exact absurd (nI_pos' (by omega)) c_6
set_option maxHeartbeats 4000000 in
set_option maxRecDepth 100000 in
theorem cm_isOne (l : Launch) (D : va_G) (c : bh_C) (h : Nat) (ad : Nat → Nat) (S : mS) (x : Int32) (hk24 : S.1 18 ≤ 24) : Met l yX4_isOne wsX4_isOne ({ frames := 4, cells := 0, slots := 0, locals := 88 }) (va_Pc [.ref h, .int (x)] (bh_pre D c (bh_mw h ad c (S)))) (vp_Si (fun r => r = bh_mone S x)) 0 0 (fun _ => False) := by
  refine Met.ofW (cc := cX4_isOne) (maxL := 4) (ret := (some .boolean)) (by decide) rfl ?_
  intro p e s m args below meth c0 s₁ B hml hv
  obtain ⟨rfl, hP, hK, hD0⟩ := hv
  have hx := B.exec
  have hb := B.bytes
  have hr := B.returns
  have hts := atoms_spec (ws := wsX4_isOne) B.pre
  have hown : s.vm.findClass RX4 = some m.cls := findClass_of_methodNamed B.named
  have hlocks := B.notSynchronized
  have hinX4 : ∀ w ∈ wsX40, w ∈ wsX4_isOne := fun _ h => List.mem_cons_of_mem _ (List.mem_append_right _ h)
  have lk_60 : (Cond.fieldLink RX4 60 "BallotHouseModel" "says" "[J").before _ s = true := hts _ (by decide +kernel)
  have lk_94 : (Cond.fieldLink RX4 94 "BallotHouseModel" "ballots" "I").before _ s = true := hts _ (by decide +kernel)
  have hI : bh_I D (bh_mw h ad c (S)) (fun _ => True) s.heap s.heap [] := ⟨hP, hD0, va_S.rf⟩
  have hl := lv_entry ([.ref h, .int (x)]) (n := 4) (Nat.le_of_ble_eq_true rfl)
  rw [lg_entry_eq]
  generalize (lg_sl ([.ref h, .int (x)]) ++ List.replicate (4 - (lg_sl ([.ref h, .int (x)])).length) Slot.unset).toArray = ls at hl ⊢
  have hl : lv_has ls 4 [(0, .ref h), (1, .int (x))] := hl
  rcases hx1 : bh_ix x 8 with _ | q
  · refine lv_iconst (v := nI 1) hx hb dX4_isOne_0 (by decide) ?_
    refine lv_istore_n (lv' := [(2, .int (nI 1)), (0, .ref h), (1, .int (x))]) hx hb dX4_isOne_1 rfl hl (by decide) rfl (fun ls hl => ?_)
    refine lv_iconst (v := nI 1) hx hb dX4_isOne_2 (by decide) ?_
    refine lv_istore_n (lv' := [(3, .int (nI 1)), (2, .int (nI 1)), (0, .ref h), (1, .int (x))]) hx hb dX4_isOne_3 rfl hl (by decide) rfl (fun ls hl => ?_)
    refine lv_iload_n hx hb dX4_isOne_4 rfl (lv_at hl 0 rfl) ?_
    refine lv_aload_n hx hb dX4_isOne_5 rfl (lv_at hl 2 rfl) ?_
    refine bn_get (ci := 3) (v := .int (nI (S.1 18))) (C := RX4) (T := TX4) (N := 31) hx hb hts hinX4 hown hK hI 0 rfl rfl 18 (by decide) lk_94 rfl (rfl) dX4_isOne_6 ?_
    refine bn_cmp_gt (tgt := 64) hx hb (by omega) (by omega) dX4_isOne_9 (by decide) (fun c_1 => ?_) (fun c_1 => ?_)
    · refine lv_iload_n hx hb dX4_isOne_64 rfl (lv_at hl 1 rfl) ?_
      exact bn_rotz hx hb hr hlocks (by unfold bh_mone; rw [hx1]) (by first | decide | exact bh_tf_nar _) dX4_isOne_65
    · refine lv_iload_n hx hb dX4_isOne_12 rfl (lv_at hl 3 rfl) ?_
      refine vp_callSi (bn_roS (As := [.int (x)]) (rest := []) ⟨hx, hb, hml, hown, hts⟩ (cm_isPlace l (x)) (va_cwS 1 hts gX4_isOne_X4_isPlace rfl rfl rfl (by decide +kernel) ⟨Nat.le_of_ble_eq_true rfl, Nat.le_of_ble_eq_true rfl⟩) rfl hl.1 (Nat.le_of_ble_eq_true rfl) dX4_isOne_13 ⟨Nat.le_of_ble_eq_true rfl, Nat.le_of_ble_eq_true rfl⟩) (fun r_2 er_2 => ?_)
      obtain rfl : r_2 = nI 0 := by rw [er_2, hx1]; rfl
      refine lv_if_eq (tgt := 64) hx hb dX4_isOne_16 (by decide) (fun c_3 => ?_) (fun c_3 => ?_)
      · refine lv_iload_n hx hb dX4_isOne_64 rfl (lv_at hl 1 rfl) ?_
        exact bn_rotz hx hb hr hlocks (by unfold bh_mone; rw [hx1]) (by first | decide | exact bh_tf_nar _) dX4_isOne_65
      · first | exact absurd c_3 (by decide) | exact absurd (by decide) c_3
  · obtain ⟨hq, rfl⟩ := bh_ix_some hx1
    refine lv_iconst (v := nI 1) hx hb dX4_isOne_0 (by decide) ?_
    refine lv_istore_n (lv' := [(2, .int (nI 1)), (0, .ref h), (1, .int (nI q))]) hx hb dX4_isOne_1 rfl hl (by decide) rfl (fun ls hl => ?_)
    refine lv_iconst (v := nI 1) hx hb dX4_isOne_2 (by decide) ?_
    refine lv_istore_n (lv' := [(3, .int (nI 1)), (2, .int (nI 1)), (0, .ref h), (1, .int (nI q))]) hx hb dX4_isOne_3 rfl hl (by decide) rfl (fun ls hl => ?_)
    refine bh_loop (σ := Nat) (fun (f : Nat) H locs ls => H = s.heap ∧ locs = [] ∧ f ≤ S.1 18 ∧ lv_has ls 4 [(3, .int (nI (f + 1))), (2, .int (bh_tf (bh_one S q f))), (0, .ref h), (1, .int (nI q))]) (fun (f : Nat) => S.1 18 - f) (fun f H locs ls hx_4 ih_4 => ?_) 0 _ _ _ ⟨rfl, rfl, Nat.zero_le _, lv_sub hl [0, 1, 2, 3] rfl⟩
    clear hl
    obtain ⟨rfl, rfl, hf, hl⟩ := hx_4
    refine lv_iload_n hx hb dX4_isOne_4 rfl (lv_at hl 0 rfl) ?_
    refine lv_aload_n hx hb dX4_isOne_5 rfl (lv_at hl 2 rfl) ?_
    refine bn_get (ci := 3) (v := .int (nI (S.1 18))) (C := RX4) (T := TX4) (N := 31) hx hb hts hinX4 hown hK hI 0 rfl rfl 18 (by decide) lk_94 rfl (rfl) dX4_isOne_6 ?_
    refine bn_cmp_gt (tgt := 64) hx hb (by omega) (by omega) dX4_isOne_9 (by decide) (fun c_5 => ?_) (fun c_5 => ?_)
    · refine lv_iload_n hx hb dX4_isOne_64 rfl (lv_at hl 1 rfl) ?_
      exact bn_rotz hx hb hr hlocks (by unfold bh_mone; rw [hx1]; show _ = bh_tf (bh_one S q (S.1 18)); rw [show f = S.1 18 by omega]) (by first | decide | exact bh_tf_nar _) dX4_isOne_65
    · refine lv_iload_n hx hb dX4_isOne_12 rfl (lv_at hl 3 rfl) ?_
      refine vp_callSi (bn_roS (As := [.int (nI q)]) (rest := []) ⟨hx, hb, hml, hown, hts⟩ (cm_isPlace l (nI q)) (va_cwS 1 hts gX4_isOne_X4_isPlace rfl rfl rfl (by decide +kernel) ⟨Nat.le_of_ble_eq_true rfl, Nat.le_of_ble_eq_true rfl⟩) rfl hl.1 (Nat.le_of_ble_eq_true rfl) dX4_isOne_13 ⟨Nat.le_of_ble_eq_true rfl, Nat.le_of_ble_eq_true rfl⟩) (fun r_6 er_6 => ?_)
      obtain rfl : r_6 = nI 1 := by rw [er_6, hx1]; rfl
      refine lv_if_eq (tgt := 64) hx hb dX4_isOne_16 (by decide) (fun c_7 => ?_) (fun c_7 => ?_)
      · first | exact absurd c_7 (by decide) | exact absurd (by decide) c_7
      · refine lv_aload_n hx hb dX4_isOne_19 rfl (lv_at hl 2 rfl) ?_
        refine lv_iload_n hx hb dX4_isOne_20 rfl (lv_at hl 0 rfl) ?_
        refine lv_iload_n hx hb dX4_isOne_21 rfl (lv_at hl 3 rfl) ?_
        refine vp_callSi (bn_roV (As := [.int (nI (f + 1)), .int (nI q)]) (rest := []) ⟨hx, hb, hml, hown, hts⟩ (cm_isChosen l D c h ad S (f + 1) q (by omega) hq) (cwV 2 hts gX4_isOne_X4_isChosen rfl rfl rfl (by decide +kernel) ⟨Nat.le_of_ble_eq_true rfl, Nat.le_of_ble_eq_true rfl⟩) hK hI 0 3 rfl rfl rfl rfl hl.1 (Nat.le_of_ble_eq_true rfl) dX4_isOne_22 ⟨Nat.le_of_ble_eq_true rfl, Nat.le_of_ble_eq_true rfl⟩) (fun r_8 er_8 => ?_)
        subst er_8
        refine lv_if_eq (tgt := 58) hx hb dX4_isOne_25 (by decide) (fun c_9 => ?_) (fun c_9 => ?_)
        · have q_1 := c_9
          refine lv_iinc (v := nI (f + 1 + 1)) (lv' := [(3, .int (nI (f + 1 + 1))), (2, .int (bh_tf (bh_one S q f))), (0, .ref h), (1, .int (nI q))]) hx hb dX4_isOne_58 hl (k := 0) rfl (nI_1 _) (by decide) rfl (fun ls hl => ?_)
          refine lv_goto (tgt := 4) hx hb dX4_isOne_61 (by decide) ?_
          exact ih_4 (f + 1) _ _ _ ⟨rfl, rfl, by omega, (by rw [show bh_one S q (f + 1) = bh_one S q f from if_neg (by rw [bh_tf_eq q_1]; decide)]; exact (lv_sub hl [0, 1, 2, 3] rfl))⟩ (by show S.1 18 - (f + 1) < S.1 18 - f; omega)
        · have q_1 := bh_tf_ne c_9
          refine lv_iload_n hx hb dX4_isOne_28 rfl (lv_at hl 1 rfl) ?_
          refine lv_if_eq (tgt := 56) hx hb dX4_isOne_29 (by decide) (fun c_10 => ?_) (fun c_10 => ?_)
          · have q_2 := bh_tf_eq c_10
            refine lv_iconst (v := nI 0) hx hb dX4_isOne_56 (by decide) ?_
            refine lv_topi (fun z_11 ez_11 => ?_)
            obtain rfl : z_11 = bh_tf (bh_one S q (f + 1)) := ez_11.trans (by unfold bh_one; rw [if_pos q_1, q_2]; rfl)
            refine lv_istore_n (lv' := [(2, .int (bh_tf (bh_one S q (f + 1)))), (3, .int (nI (f + 1))), (0, .ref h), (1, .int (nI q))]) hx hb dX4_isOne_57 rfl hl (by decide) rfl (fun ls hl => ?_)
            refine lv_iinc (v := nI (f + 1 + 1)) (lv' := [(3, .int (nI (f + 1 + 1))), (2, .int (bh_tf (bh_one S q (f + 1)))), (0, .ref h), (1, .int (nI q))]) hx hb dX4_isOne_58 hl (k := 1) rfl (nI_1 _) (by decide) rfl (fun ls hl => ?_)
            refine lv_goto (tgt := 4) hx hb dX4_isOne_61 (by decide) ?_
            exact ih_4 (f + 1) _ _ _ ⟨rfl, rfl, by omega, ((lv_sub hl [0, 1, 2, 3] rfl))⟩ (by show S.1 18 - (f + 1) < S.1 18 - f; omega)
          · have q_2 := bh_tf_ne c_10
            refine lv_aload_n hx hb dX4_isOne_32 rfl (lv_at hl 2 rfl) ?_
            refine bn_get (ci := 3) (v := .ref (ad 17)) (C := RX4) (T := TX4) (N := 31) hx hb hts hinX4 hown hK hI 0 rfl rfl 17 (by decide) lk_60 rfl (rfl) dX4_isOne_33 ?_
            refine lv_bipush (v := nI 8) hx hb dX4_isOne_36 (by decide) ?_
            refine lv_iload_n hx hb dX4_isOne_38 rfl (lv_at hl 0 rfl) ?_
            refine bn_imul hx hb dX4_isOne_39 ?_
            refine lv_iload_n hx hb dX4_isOne_40 rfl (lv_at hl 3 rfl) ?_
            refine bn_iadd hx hb dX4_isOne_41 ?_
            refine bn_lald (n := 200) (v := S.2.2.2 17 ((8 * (f + 1)) + q)) hx hb hK hI 17 1 rfl rfl (by omega) (by first | decide | omega) (rfl) dX4_isOne_42 ?_
            refine lv_aload_n hx hb dX4_isOne_43 rfl (lv_at hl 2 rfl) ?_
            refine lv_iload_n hx hb dX4_isOne_44 rfl (lv_at hl 3 rfl) ?_
            refine vp_callSl (bn_roV (As := [.int (nI q)]) (rest := [.long (S.2.2.2 17 ((8 * (f + 1)) + q))]) ⟨hx, hb, hml, hown, hts⟩ (cm_chosenValue l D c h ad S (nI q) hk24) (cwV 1 hts gX4_isOne_X4_chosenValue rfl rfl rfl (by decide +kernel) ⟨Nat.le_of_ble_eq_true rfl, Nat.le_of_ble_eq_true rfl⟩) hK hI 0 3 rfl rfl rfl rfl hl.1 (Nat.le_of_ble_eq_true rfl) dX4_isOne_45 ⟨Nat.le_of_ble_eq_true rfl, Nat.le_of_ble_eq_true rfl⟩) (fun r_12 er_12 => ?_)
            obtain rfl : r_12 = bh_chv S q := by rw [er_12]; unfold bh_mchv; rw [hx1]
            refine W.lcmp hx hb dX4_isOne_48 ?_
            refine lv_if_ne (tgt := 56) hx hb dX4_isOne_49 (by decide) (fun c_13 => ?_) (fun c_13 => ?_)
            · have q_3 := bh_lcmp_ne c_13
              refine lv_iconst (v := nI 0) hx hb dX4_isOne_56 (by decide) ?_
              refine lv_topi (fun z_14 ez_14 => ?_)
              obtain rfl : z_14 = bh_tf (bh_one S q (f + 1)) := ez_14.trans (by unfold bh_one; rw [if_pos q_1, decide_eq_false q_3, Bool.and_false]; rfl)
              refine lv_istore_n (lv' := [(2, .int (bh_tf (bh_one S q (f + 1)))), (3, .int (nI (f + 1))), (0, .ref h), (1, .int (nI q))]) hx hb dX4_isOne_57 rfl hl (by decide) rfl (fun ls hl => ?_)
              refine lv_iinc (v := nI (f + 1 + 1)) (lv' := [(3, .int (nI (f + 1 + 1))), (2, .int (bh_tf (bh_one S q (f + 1)))), (0, .ref h), (1, .int (nI q))]) hx hb dX4_isOne_58 hl (k := 1) rfl (nI_1 _) (by decide) rfl (fun ls hl => ?_)
              refine lv_goto (tgt := 4) hx hb dX4_isOne_61 (by decide) ?_
              exact ih_4 (f + 1) _ _ _ ⟨rfl, rfl, by omega, ((lv_sub hl [0, 1, 2, 3] rfl))⟩ (by show S.1 18 - (f + 1) < S.1 18 - f; omega)
            · have q_3 := bh_lcmp_eq c_13
              refine lv_iconst (v := nI 1) hx hb dX4_isOne_52 (by decide) ?_
              refine lv_topi (fun z_15 ez_15 => ?_)
              obtain rfl : z_15 = bh_tf (bh_one S q (f + 1)) := ez_15.trans (by unfold bh_one; rw [if_pos q_1, q_2, decide_eq_true q_3]; rfl)
              refine lv_goto (tgt := 57) hx hb dX4_isOne_53 (by decide) ?_
              refine lv_istore_n (lv' := [(2, .int (bh_tf (bh_one S q (f + 1)))), (3, .int (nI (f + 1))), (0, .ref h), (1, .int (nI q))]) hx hb dX4_isOne_57 rfl hl (by decide) rfl (fun ls hl => ?_)
              refine lv_iinc (v := nI (f + 1 + 1)) (lv' := [(3, .int (nI (f + 1 + 1))), (2, .int (bh_tf (bh_one S q (f + 1)))), (0, .ref h), (1, .int (nI q))]) hx hb dX4_isOne_58 hl (k := 1) rfl (nI_1 _) (by decide) rfl (fun ls hl => ?_)
              refine lv_goto (tgt := 4) hx hb dX4_isOne_61 (by decide) ?_
              exact ih_4 (f + 1) _ _ _ ⟨rfl, rfl, by omega, ((lv_sub hl [0, 1, 2, 3] rfl))⟩ (by show S.1 18 - (f + 1) < S.1 18 - f; omega)
set_option maxHeartbeats 4000000 in
set_option maxRecDepth 100000 in
theorem cm_lose (l : Launch) (D : va_G) (c : bh_C) (h : Nat) (ad : Nat → Nat) (sz : Nat) (S : mS) (x : Int32) (ha : S.1 28 ≤ 400) : Met l yX4_lose wsX4_lose ({ frames := 2, cells := 0, slots := 0, locals := 45 }) (va_Pc [.ref h, .int (x)] (bh_prm D c (bh_mw h ad c (S)) sz)) (va_Qi (fun (r : Int32) (u : mS) => r = (bh_mlose S x).1 ∧ u = (bh_mlose S x).2) (fun u t => bh_post D c (bh_mw h ad c u) (va_A (bh_mw h ad c (S)) sz) t) (va_A (bh_mw h ad c (S)) sz)) 0 0 (va_A (bh_mw h ad c (S)) sz) := by
  refine Met.ofW (cc := cX4_lose) (maxL := 2) (ret := (some .boolean)) (by decide) rfl ?_
  intro p e s m args below meth c0 s₁ B hml hv
  obtain ⟨rfl, hsz, hP, hK, hD0⟩ := hv
  have hx := B.exec
  have hb := B.bytes
  have hr := B.returns
  have hts := atoms_spec (ws := wsX4_lose) B.pre
  have hown : s.vm.findClass RX4 = some m.cls := findClass_of_methodNamed B.named
  have hlocks := B.notSynchronized
  have hinX4 : ∀ w ∈ wsX40, w ∈ wsX4_lose := fun _ h => List.mem_cons_of_mem _ (List.mem_append_right _ h)
  have lk_97 : (Cond.fieldLink RX4 97 "BallotHouseModel" "air" "I").before _ s = true := hts _ (by decide +kernel)
  subst hsz
  have hI := bh_start hP hD0
  generalize hAe : va_A (bh_mw h ad c (S)) s.heap.size = A at hI ⊢
  have hA : ∀ q : Nat, s.heap.size ≤ q → A q := fun q h => by rw [← hAe]; exact Or.inr h
  clear hP hD0 hAe
  have hl := lv_entry ([.ref h, .int (x)]) (n := 2) (Nat.le_of_ble_eq_true rfl)
  rw [lg_entry_eq]
  generalize (lg_sl ([.ref h, .int (x)]) ++ List.replicate (2 - (lg_sl ([.ref h, .int (x)])).length) Slot.unset).toArray = ls at hl ⊢
  have hl : lv_has ls 2 [(0, .ref h), (1, .int (x))] := hl
  rcases hx1 : bh_ix x (S.1 28) with _ | k
  · refine lv_iload_n hx hb dX4_lose_0 rfl (lv_at hl 1 rfl) ?_
    refine lv_if_lt (tgt := 12) hx hb dX4_lose_1 (by decide) (fun c_1 => ?_) (fun c_1 => ?_)
    · refine lv_iconst (v := nI 0) hx hb dX4_lose_12 (by decide) ?_
      exact bn_retz hx hb hr hlocks hK (S) hI (by unfold bh_mlose; rw [hx1]; exact ⟨rfl, rfl⟩) (by decide) dX4_lose_13
    · refine lv_iload_n hx hb dX4_lose_4 rfl (lv_at hl 1 rfl) ?_
      refine lv_aload_n hx hb dX4_lose_5 rfl (lv_at hl 0 rfl) ?_
      refine bn_get (ci := 3) (v := .int (nI (S.1 28))) (C := RX4) (T := TX4) (N := 31) hx hb hts hinX4 hown hK hI 0 rfl rfl 28 (by decide) lk_97 rfl (rfl) dX4_lose_6 ?_
      refine lv_icmp_lt (tgt := 14) hx hb dX4_lose_9 (by decide) (fun c_2 => ?_) (fun c_2 => ?_)
      · exfalso
        have q1 := bh_ix_none hx1
        have q2 := c_1
        have q3 := c_2
        simp only [bh_ltI, bh_leI, bh_t0, nI_toInt (show S.1 28 < 2 ^ 31 by omega)] at q2 q3
        omega
      · refine lv_iconst (v := nI 0) hx hb dX4_lose_12 (by decide) ?_
        exact bn_retz hx hb hr hlocks hK (S) hI (by unfold bh_mlose; rw [hx1]; exact ⟨rfl, rfl⟩) (by decide) dX4_lose_13
  · obtain ⟨hk, rfl⟩ := bh_ix_some hx1
    refine lv_iload_n hx hb dX4_lose_0 rfl (lv_at hl 1 rfl) ?_
    refine lv_if_lt (tgt := 12) hx hb dX4_lose_1 (by decide) (fun c_3 => ?_) (fun c_3 => ?_)
    · exact absurd c_3 (nI_pos (by omega))
    · refine lv_iload_n hx hb dX4_lose_4 rfl (lv_at hl 1 rfl) ?_
      refine lv_aload_n hx hb dX4_lose_5 rfl (lv_at hl 0 rfl) ?_
      refine bn_get (ci := 3) (v := .int (nI (S.1 28))) (C := RX4) (T := TX4) (N := 31) hx hb hts hinX4 hown hK hI 0 rfl rfl 28 (by decide) lk_97 rfl (rfl) dX4_lose_6 ?_
      refine bn_cmp_lt (tgt := 14) hx hb (by omega) (by omega) dX4_lose_9 (by decide) (fun c_4 => ?_) (fun c_4 => ?_)
      · refine lv_aload_n hx hb dX4_lose_14 rfl (lv_at hl 0 rfl) ?_
        refine lv_iload_n hx hb dX4_lose_15 rfl (lv_at hl 1 rfl) ?_
        refine bn_muv (bn_muV (As := [.int (nI k)]) (rest := []) ⟨hx, hb, hml, hown, hts⟩ (cm_take l D c h ad _ S k ha hk) (cwV 1 hts gX4_lose_X4_take rfl rfl rfl (by decide +kernel) ⟨Nat.le_of_ble_eq_true rfl, Nat.le_of_ble_eq_true rfl⟩) hK hI 0 3 rfl rfl rfl rfl hl.1 (Nat.le_of_ble_eq_true rfl) dX4_lose_16 ⟨Nat.le_of_ble_eq_true rfl, Nat.le_of_ble_eq_true rfl⟩) hI hA (fun u_5 H locs eu_5 hI => ?_)
        subst eu_5
        refine lv_iconst (v := nI 1) hx hb dX4_lose_19 (by decide) ?_
        exact bn_retz hx hb hr hlocks hK (bh_take S k) hI (by unfold bh_mlose; rw [hx1]; exact ⟨rfl, rfl⟩) (by decide) dX4_lose_20
      · exact absurd c_4 (by omega)
set_option maxHeartbeats 4000000 in
set_option maxRecDepth 100000 in
theorem cm_twice (l : Launch) (D : va_G) (c : bh_C) (h : Nat) (ad : Nat → Nat) (sz : Nat) (S : mS) (x : Int32) (ha : S.1 28 ≤ 400) : Met l yX4_twice wsX4_twice ({ frames := 1, cells := 0, slots := 0, locals := 23 }) (va_Pc [.ref h, .int (x)] (bh_prm D c (bh_mw h ad c (S)) sz)) (va_Qi (fun (r : Int32) (u : mS) => r = (bh_mtw S x).1 ∧ u = (bh_mtw S x).2) (fun u t => bh_post D c (bh_mw h ad c u) (va_A (bh_mw h ad c (S)) sz) t) (va_A (bh_mw h ad c (S)) sz)) 0 0 (va_A (bh_mw h ad c (S)) sz) := by
  refine Met.ofW (cc := cX4_twice) (maxL := 2) (ret := (some .boolean)) (by decide) rfl ?_
  intro p e s m args below meth c0 s₁ B hml hv
  obtain ⟨rfl, hsz, hP, hK, hD0⟩ := hv
  have hx := B.exec
  have hb := B.bytes
  have hr := B.returns
  have hts := atoms_spec (ws := wsX4_twice) B.pre
  have hown : s.vm.findClass RX4 = some m.cls := findClass_of_methodNamed B.named
  have hlocks := B.notSynchronized
  have hinX4 : ∀ w ∈ wsX40, w ∈ wsX4_twice := fun _ h => List.mem_cons_of_mem _ (List.mem_append_right _ h)
  have lk_97 : (Cond.fieldLink RX4 97 "BallotHouseModel" "air" "I").before _ s = true := hts _ (by decide +kernel)
  subst hsz
  have hI := bh_start hP hD0
  generalize hAe : va_A (bh_mw h ad c (S)) s.heap.size = A at hI ⊢
  have hA : ∀ q : Nat, s.heap.size ≤ q → A q := fun q h => by rw [← hAe]; exact Or.inr h
  clear hP hD0 hAe
  have hl := lv_entry ([.ref h, .int (x)]) (n := 2) (Nat.le_of_ble_eq_true rfl)
  rw [lg_entry_eq]
  generalize (lg_sl ([.ref h, .int (x)]) ++ List.replicate (2 - (lg_sl ([.ref h, .int (x)])).length) Slot.unset).toArray = ls at hl ⊢
  have hl : lv_has ls 2 [(0, .ref h), (1, .int (x))] := hl
  rcases hx1 : bh_ix x (S.1 28) with _ | k
  · refine lv_iload_n hx hb dX4_twice_0 rfl (lv_at hl 1 rfl) ?_
    refine lv_if_lt (tgt := 22) hx hb dX4_twice_1 (by decide) (fun c_1 => ?_) (fun c_1 => ?_)
    · refine lv_iconst (v := nI 0) hx hb dX4_twice_22 (by decide) ?_
      exact bn_retz hx hb hr hlocks hK (S) hI (by unfold bh_mtw; rw [hx1]; exact ⟨rfl, rfl⟩) (by decide) dX4_twice_23
    · refine lv_iload_n hx hb dX4_twice_4 rfl (lv_at hl 1 rfl) ?_
      refine lv_aload_n hx hb dX4_twice_5 rfl (lv_at hl 0 rfl) ?_
      refine bn_get (ci := 3) (v := .int (nI (S.1 28))) (C := RX4) (T := TX4) (N := 31) hx hb hts hinX4 hown hK hI 0 rfl rfl 28 (by decide) lk_97 rfl (rfl) dX4_twice_6 ?_
      refine lv_icmp_ge (tgt := 22) hx hb dX4_twice_9 (by decide) (fun c_2 => ?_) (fun c_2 => ?_)
      · refine lv_iconst (v := nI 0) hx hb dX4_twice_22 (by decide) ?_
        exact bn_retz hx hb hr hlocks hK (S) hI (by unfold bh_mtw; rw [hx1]; exact ⟨rfl, rfl⟩) (by decide) dX4_twice_23
      · exfalso
        have q1 := bh_ix_none hx1
        have q2 := c_1
        have q3 := c_2
        simp only [bh_ltI, bh_leI, bh_t0, nI_toInt (show S.1 28 < 2 ^ 31 by omega)] at q2 q3
        omega
  · obtain ⟨hk, rfl⟩ := bh_ix_some hx1
    refine lv_iload_n hx hb dX4_twice_0 rfl (lv_at hl 1 rfl) ?_
    refine lv_if_lt (tgt := 22) hx hb dX4_twice_1 (by decide) (fun c_3 => ?_) (fun c_3 => ?_)
    · exact absurd c_3 (nI_pos (by omega))
    · refine lv_iload_n hx hb dX4_twice_4 rfl (lv_at hl 1 rfl) ?_
      refine lv_aload_n hx hb dX4_twice_5 rfl (lv_at hl 0 rfl) ?_
      refine bn_get (ci := 3) (v := .int (nI (S.1 28))) (C := RX4) (T := TX4) (N := 31) hx hb hts hinX4 hown hK hI 0 rfl rfl 28 (by decide) lk_97 rfl (rfl) dX4_twice_6 ?_
      refine bn_cmp_ge (tgt := 22) hx hb (by omega) (by omega) dX4_twice_9 (by decide) (fun c_4 => ?_) (fun c_4 => ?_)
      · exact absurd c_4 (by omega)
      · refine lv_aload_n hx hb dX4_twice_12 rfl (lv_at hl 0 rfl) ?_
        refine bn_get (ci := 3) (v := .int (nI (S.1 28))) (C := RX4) (T := TX4) (N := 31) hx hb hts hinX4 hown hK hI 0 rfl rfl 28 (by decide) lk_97 rfl (rfl) dX4_twice_13 ?_
        refine lv_sipush (v := nI 400) hx hb dX4_twice_16 (by decide) ?_
        refine bn_cmp_ne (tgt := 24) hx hb (by omega) (by omega) dX4_twice_19 (by decide) (fun c_5 => ?_) (fun c_5 => ?_)
        · refine lv_aload_n hx hb dX4_twice_24 rfl (lv_at hl 0 rfl) ?_
          refine lv_iload_n hx hb dX4_twice_25 rfl (lv_at hl 1 rfl) ?_
          refine lv_aload_n hx hb dX4_twice_26 rfl (lv_at hl 0 rfl) ?_
          refine bn_get (ci := 3) (v := .int (nI (S.1 28))) (C := RX4) (T := TX4) (N := 31) hx hb hts hinX4 hown hK hI 0 rfl rfl 28 (by decide) lk_97 rfl (rfl) dX4_twice_27 ?_
          refine bn_muv (bn_muV (As := [.int (nI k), .int (nI (S.1 28))]) (rest := []) ⟨hx, hb, hml, hown, hts⟩ (cm_copy l D c h ad _ S k (S.1 28) (by omega) (by omega) (by omega)) (cwV 2 hts gX4_twice_X4_copy rfl rfl rfl (by decide +kernel) ⟨Nat.le_of_ble_eq_true rfl, Nat.le_of_ble_eq_true rfl⟩) hK hI 0 3 rfl rfl rfl rfl hl.1 (Nat.le_of_ble_eq_true rfl) dX4_twice_30 ⟨Nat.le_of_ble_eq_true rfl, Nat.le_of_ble_eq_true rfl⟩) hI hA (fun u_6 H locs eu_6 hI => ?_)
          subst eu_6
          refine lv_aload_n hx hb dX4_twice_33 rfl (lv_at hl 0 rfl) ?_
          refine lv_dup hx hb dX4_twice_34 rfl ?_
          refine bn_get (ci := 3) (v := .int (nI (S.1 28))) (C := RX4) (T := TX4) (N := 31) hx hb hts hinX4 hown hK hI 0 rfl rfl 28 (by decide) lk_97 rfl (rfl) dX4_twice_35 ?_
          refine lv_iconst (v := nI 1) hx hb dX4_twice_38 (by decide) ?_
          refine bn_iadd hx hb dX4_twice_39 ?_
          refine bn_put (ci := 3) (v := .int (nI ((S.1 28) + 1))) (ty := .int) (C := RX4) (T := TX4) (N := 31) (ws' := bh_mw h ad c (bh_n (bh_cp S k (S.1 28)) 28 ((S.1 28) + 1))) hx hb hts hinX4 tyX4 tyX4_ok nmX4 hown hK hI 0 rfl rfl 28 (by decide) lk_97 rfl rfl rfl rfl rfl (Nat.le_of_ble_eq_true rfl) dX4_twice_40 rfl (fun H locs hI => ?_)
          refine lv_iconst (v := nI 1) hx hb dX4_twice_43 (by decide) ?_
          exact bn_retz hx hb hr hlocks hK (bh_n (bh_cp S k (S.1 28)) 28 ((S.1 28) + 1)) hI (by unfold bh_mtw; rw [hx1]; dsimp only; rw [if_neg c_5]; exact ⟨rfl, rfl⟩) (by decide) dX4_twice_44
        · refine lv_iconst (v := nI 0) hx hb dX4_twice_22 (by decide) ?_
          exact bn_retz hx hb hr hlocks hK (S) hI (by unfold bh_mtw; rw [hx1]; dsimp only; rw [if_pos c_5]; exact ⟨rfl, rfl⟩) (by decide) dX4_twice_23
set_option maxHeartbeats 4000000 in
set_option maxRecDepth 100000 in
theorem cm_silent (l : Launch) (D : va_G) (c : bh_C) (h : Nat) (ad : Nat → Nat) (sz : Nat) (S : mS) (x z : Int32) (hn : S.1 0 ≤ 7) (hz : vp_nar .boolean z = z) : Met l yX4_silent wsX4_silent ({ frames := 1, cells := 0, slots := 0, locals := 21 }) (va_Pc [.ref h, .int (x), .int (z)] (bh_prm D c (bh_mw h ad c (S)) sz)) (va_Qi (fun (r : Int32) (u : mS) => r = (bh_msil S x z).1 ∧ u = (bh_msil S x z).2) (fun u t => bh_post D c (bh_mw h ad c u) (va_A (bh_mw h ad c (S)) sz) t) (va_A (bh_mw h ad c (S)) sz)) 0 0 (va_A (bh_mw h ad c (S)) sz) := by
  refine Met.ofW (cc := cX4_silent) (maxL := 3) (ret := (some .boolean)) (by decide) rfl ?_
  intro p e s m args below meth c0 s₁ B hml hv
  obtain ⟨rfl, hsz, hP, hK, hD0⟩ := hv
  have hx := B.exec
  have hb := B.bytes
  have hr := B.returns
  have hts := atoms_spec (ws := wsX4_silent) B.pre
  have hown : s.vm.findClass RX4 = some m.cls := findClass_of_methodNamed B.named
  have hlocks := B.notSynchronized
  have hinX4 : ∀ w ∈ wsX40, w ∈ wsX4_silent := fun _ h => List.mem_cons_of_mem _ (List.mem_append_right _ h)
  have lk_20 : (Cond.fieldLink RX4 20 "BallotHouseModel" "silent" "[Z").before _ s = true := hts _ (by decide +kernel)
  subst hsz
  have hI := bh_start hP hD0
  generalize hAe : va_A (bh_mw h ad c (S)) s.heap.size = A at hI ⊢
  have hA : ∀ q : Nat, s.heap.size ≤ q → A q := fun q h => by rw [← hAe]; exact Or.inr h
  clear hP hD0 hAe
  have hl := lv_entry ([.ref h, .int (x), .int (z)]) (n := 3) (Nat.le_of_ble_eq_true rfl)
  rw [lg_entry_eq]
  generalize (lg_sl ([.ref h, .int (x), .int (z)]) ++ List.replicate (3 - (lg_sl ([.ref h, .int (x), .int (z)])).length) Slot.unset).toArray = ls at hl ⊢
  have hl : lv_has ls 3 [(0, .ref h), (1, .int (x)), (2, .int (z))] := hl
  rcases hx1 : bh_ix x (S.1 0) with _ | v
  · refine lv_aload_n hx hb dX4_silent_0 rfl (lv_at hl 0 rfl) ?_
    refine lv_iload_n hx hb dX4_silent_1 rfl (lv_at hl 1 rfl) ?_
    refine vp_callSi (bn_roV (As := [.int (x)]) (rest := []) ⟨hx, hb, hml, hown, hts⟩ (cm_isVoter l D c h ad S (x) hn) (cwV 1 hts gX4_silent_X4_isVoter rfl rfl rfl (by decide +kernel) ⟨Nat.le_of_ble_eq_true rfl, Nat.le_of_ble_eq_true rfl⟩) hK hI 0 3 rfl rfl rfl rfl hl.1 (Nat.le_of_ble_eq_true rfl) dX4_silent_2 ⟨Nat.le_of_ble_eq_true rfl, Nat.le_of_ble_eq_true rfl⟩) (fun r_1 er_1 => ?_)
    obtain rfl : r_1 = nI 0 := by rw [er_1, hx1]; rfl
    refine lv_if_ne (tgt := 10) hx hb dX4_silent_5 (by decide) (fun c_2 => ?_) (fun c_2 => ?_)
    · first | exact absurd c_2 (by decide) | exact absurd (by decide) c_2
    · refine lv_iconst (v := nI 0) hx hb dX4_silent_8 (by decide) ?_
      exact bn_retz hx hb hr hlocks hK (S) hI (by unfold bh_msil; rw [hx1]; exact ⟨rfl, rfl⟩) (by decide) dX4_silent_9
  · obtain ⟨hv, rfl⟩ := bh_ix_some hx1
    refine lv_aload_n hx hb dX4_silent_0 rfl (lv_at hl 0 rfl) ?_
    refine lv_iload_n hx hb dX4_silent_1 rfl (lv_at hl 1 rfl) ?_
    refine vp_callSi (bn_roV (As := [.int (nI v)]) (rest := []) ⟨hx, hb, hml, hown, hts⟩ (cm_isVoter l D c h ad S (nI v) hn) (cwV 1 hts gX4_silent_X4_isVoter rfl rfl rfl (by decide +kernel) ⟨Nat.le_of_ble_eq_true rfl, Nat.le_of_ble_eq_true rfl⟩) hK hI 0 3 rfl rfl rfl rfl hl.1 (Nat.le_of_ble_eq_true rfl) dX4_silent_2 ⟨Nat.le_of_ble_eq_true rfl, Nat.le_of_ble_eq_true rfl⟩) (fun r_3 er_3 => ?_)
    obtain rfl : r_3 = nI 1 := by rw [er_3, hx1]; rfl
    refine lv_if_ne (tgt := 10) hx hb dX4_silent_5 (by decide) (fun c_4 => ?_) (fun c_4 => ?_)
    · refine lv_aload_n hx hb dX4_silent_10 rfl (lv_at hl 0 rfl) ?_
      refine bn_get (ci := 3) (v := .ref (ad 4)) (C := RX4) (T := TX4) (N := 31) hx hb hts hinX4 hown hK hI 0 rfl rfl 4 (by decide) lk_20 rfl (rfl) dX4_silent_11 ?_
      refine lv_iload_n hx hb dX4_silent_14 rfl (lv_at hl 1 rfl) ?_
      refine lv_iload_n hx hb dX4_silent_15 rfl (lv_at hl 2 rfl) ?_
      refine bn_zast (n := 7) (ws' := bh_mw h ad c (bh_r S 4 v z)) hx hb hK hI 4 2 rfl rfl (by omega) (by first | decide | omega) (hz) dX4_silent_16 rfl (fun H locs hI => ?_)
      refine lv_iconst (v := nI 1) hx hb dX4_silent_17 (by decide) ?_
      exact bn_retz hx hb hr hlocks hK (bh_r S 4 v z) hI (by unfold bh_msil; rw [hx1]; exact ⟨rfl, rfl⟩) (by decide) dX4_silent_18
    · first | exact absurd c_4 (by decide) | exact absurd (by decide) c_4
set_option maxHeartbeats 4000000 in
set_option maxRecDepth 100000 in
theorem cm_deliver0 (l : Launch) (D : va_G) (c : bh_C) (h : Nat) (ad : Nat → Nat) (sz : Nat) (S : mS) (x : Int32) (ha : S.1 28 ≤ 400) (hx1 : bh_ix x (S.1 28) = none) : Met l yX4_deliver wsX4_deliver ({ frames := 0, cells := 0, slots := 0, locals := 0 }) (va_Pc [.ref h, .int (x)] (bh_prm D c (bh_mw h ad c (S)) sz)) (va_Qi (fun (r : Int32) (u : mS) => r = nI 0 ∧ u = S) (fun u t => bh_post D c (bh_mw h ad c u) (va_A (bh_mw h ad c (S)) sz) t) (va_A (bh_mw h ad c (S)) sz)) 0 0 (va_A (bh_mw h ad c (S)) sz) := by
  refine Met.ofW (cc := cX4_deliver) (maxL := 9) (ret := (some .boolean)) (by decide) rfl ?_
  intro p e s m args below meth c0 s₁ B hml hv
  obtain ⟨rfl, hsz, hP, hK, hD0⟩ := hv
  have hx := B.exec
  have hb := B.bytes
  have hr := B.returns
  have hts := atoms_spec (ws := wsX4_deliver) B.pre
  have hown : s.vm.findClass RX4 = some m.cls := findClass_of_methodNamed B.named
  have hlocks := B.notSynchronized
  have hinX4 : ∀ w ∈ wsX40, w ∈ wsX4_deliver := fun _ h => List.mem_cons_of_mem _ (List.mem_append_right _ h)
  have lk_97 : (Cond.fieldLink RX4 97 "BallotHouseModel" "air" "I").before _ s = true := hts _ (by decide +kernel)
  subst hsz
  have hI := bh_start hP hD0
  generalize hAe : va_A (bh_mw h ad c (S)) s.heap.size = A at hI ⊢
  have hA : ∀ q : Nat, s.heap.size ≤ q → A q := fun q h => by rw [← hAe]; exact Or.inr h
  clear hP hD0 hAe
  have hl := lv_entry ([.ref h, .int (x)]) (n := 9) (Nat.le_of_ble_eq_true rfl)
  rw [lg_entry_eq]
  generalize (lg_sl ([.ref h, .int (x)]) ++ List.replicate (9 - (lg_sl ([.ref h, .int (x)])).length) Slot.unset).toArray = ls at hl ⊢
  have hl : lv_has ls 9 [(0, .ref h), (1, .int (x))] := hl
  refine lv_iload_n hx hb dX4_deliver_0 rfl (lv_at hl 1 rfl) ?_
  refine lv_if_lt (tgt := 20) hx hb dX4_deliver_1 (by decide) (fun c_1 => ?_) (fun c_1 => ?_)
  · refine lv_iconst (v := nI 0) hx hb dX4_deliver_20 (by decide) ?_
    exact bn_retz hx hb hr hlocks hK (S) hI (⟨rfl, rfl⟩) (by decide) dX4_deliver_21
  · refine lv_iload_n hx hb dX4_deliver_4 rfl (lv_at hl 1 rfl) ?_
    refine lv_aload_n hx hb dX4_deliver_5 rfl (lv_at hl 0 rfl) ?_
    refine bn_get (ci := 3) (v := .int (nI (S.1 28))) (C := RX4) (T := TX4) (N := 31) hx hb hts hinX4 hown hK hI 0 rfl rfl 28 (by decide) lk_97 rfl (rfl) dX4_deliver_6 ?_
    refine lv_icmp_ge (tgt := 20) hx hb dX4_deliver_9 (by decide) (fun c_2 => ?_) (fun c_2 => ?_)
    · refine lv_iconst (v := nI 0) hx hb dX4_deliver_20 (by decide) ?_
      exact bn_retz hx hb hr hlocks hK (S) hI (⟨rfl, rfl⟩) (by decide) dX4_deliver_21
    · exfalso
      have q1 := bh_ix_none hx1
      have q2 := c_1
      have q3 := c_2
      simp only [bh_ltI, bh_leI, bh_t0, nI_toInt (show S.1 28 < 2 ^ 31 by omega)] at q2 q3
      omega
set_option maxHeartbeats 4000000 in
set_option maxRecDepth 100000 in
theorem cm_deliverF (l : Launch) (D : va_G) (c : bh_C) (h : Nat) (ad : Nat → Nat) (sz : Nat) (S : mS) (k : Nat) (ha : S.1 28 ≤ 400) (hk : k < S.1 28) (hL : bh_lok S k) (hcb : bh_cb S k = false) : Met l yX4_deliver wsX4_deliver ({ frames := 1, cells := 0, slots := 0, locals := 21 }) (va_Pc [.ref h, .int (nI k)] (bh_prm D c (bh_mw h ad c (S)) sz)) (va_Qi (fun (r : Int32) (u : mS) => r = nI 0 ∧ u = S) (fun u t => bh_post D c (bh_mw h ad c u) (va_A (bh_mw h ad c (S)) sz) t) (va_A (bh_mw h ad c (S)) sz)) 0 0 (va_A (bh_mw h ad c (S)) sz) := by
  refine Met.ofW (cc := cX4_deliver) (maxL := 9) (ret := (some .boolean)) (by decide) rfl ?_
  intro p e s m args below meth c0 s₁ B hml hv
  obtain ⟨rfl, hsz, hP, hK, hD0⟩ := hv
  have hx := B.exec
  have hb := B.bytes
  have hr := B.returns
  have hts := atoms_spec (ws := wsX4_deliver) B.pre
  have hown : s.vm.findClass RX4 = some m.cls := findClass_of_methodNamed B.named
  have hlocks := B.notSynchronized
  have hinX4 : ∀ w ∈ wsX40, w ∈ wsX4_deliver := fun _ h => List.mem_cons_of_mem _ (List.mem_append_right _ h)
  have lk_97 : (Cond.fieldLink RX4 97 "BallotHouseModel" "air" "I").before _ s = true := hts _ (by decide +kernel)
  subst hsz
  have hI := bh_start hP hD0
  generalize hAe : va_A (bh_mw h ad c (S)) s.heap.size = A at hI ⊢
  have hA : ∀ q : Nat, s.heap.size ≤ q → A q := fun q h => by rw [← hAe]; exact Or.inr h
  clear hP hD0 hAe
  have hl := lv_entry ([.ref h, .int (nI k)]) (n := 9) (Nat.le_of_ble_eq_true rfl)
  rw [lg_entry_eq]
  generalize (lg_sl ([.ref h, .int (nI k)]) ++ List.replicate (9 - (lg_sl ([.ref h, .int (nI k)])).length) Slot.unset).toArray = ls at hl ⊢
  have hl : lv_has ls 9 [(0, .ref h), (1, .int (nI k))] := hl
  refine lv_iload_n hx hb dX4_deliver_0 rfl (lv_at hl 1 rfl) ?_
  refine lv_if_lt (tgt := 20) hx hb dX4_deliver_1 (by decide) (fun c_1 => ?_) (fun c_1 => ?_)
  · exact absurd c_1 (nI_pos (by omega))
  · refine lv_iload_n hx hb dX4_deliver_4 rfl (lv_at hl 1 rfl) ?_
    refine lv_aload_n hx hb dX4_deliver_5 rfl (lv_at hl 0 rfl) ?_
    refine bn_get (ci := 3) (v := .int (nI (S.1 28))) (C := RX4) (T := TX4) (N := 31) hx hb hts hinX4 hown hK hI 0 rfl rfl 28 (by decide) lk_97 rfl (rfl) dX4_deliver_6 ?_
    refine bn_cmp_ge (tgt := 20) hx hb (by omega) (by omega) dX4_deliver_9 (by decide) (fun c_2 => ?_) (fun c_2 => ?_)
    · exact absurd c_2 (by omega)
    · refine lv_aload_n hx hb dX4_deliver_12 rfl (lv_at hl 0 rfl) ?_
      refine lv_iload_n hx hb dX4_deliver_13 rfl (lv_at hl 1 rfl) ?_
      refine vp_callSi (bn_roV (As := [.int (nI k)]) (rest := []) ⟨hx, hb, hml, hown, hts⟩ (cm_canBe l D c h ad S k (by omega) (bh_lok_cv hL)) (cwV 1 hts gX4_deliver_X4_canBe rfl rfl rfl (by decide +kernel) ⟨Nat.le_of_ble_eq_true rfl, Nat.le_of_ble_eq_true rfl⟩) hK hI 0 3 rfl rfl rfl rfl hl.1 (Nat.le_of_ble_eq_true rfl) dX4_deliver_14 ⟨Nat.le_of_ble_eq_true rfl, Nat.le_of_ble_eq_true rfl⟩) (fun r_3 er_3 => ?_)
      rw [hcb] at er_3
      subst er_3
      refine lv_if_ne (tgt := 22) hx hb dX4_deliver_17 (by decide) (fun c_4 => ?_) (fun c_4 => ?_)
      · first | exact absurd c_4 (by decide) | exact absurd (by decide) c_4
      · refine lv_iconst (v := nI 0) hx hb dX4_deliver_20 (by decide) ?_
        exact bn_retz hx hb hr hlocks hK (S) hI (⟨rfl, rfl⟩) (by decide) dX4_deliver_21
set_option maxHeartbeats 4000000 in
set_option maxRecDepth 100000 in
theorem cm_propose (l : Launch) (D : va_G) (c : bh_C) (h : Nat) (ad : Nat → Nat) (sz : Nat) (S : mS) (x y : Int32) (z : Int64) (ha : S.1 28 ≤ 400) (hn : S.1 0 ≤ 7) (hk24 : S.1 18 ≤ 24) : Met l yX4_propose wsX4_propose ({ frames := 2, cells := 0, slots := 0, locals := 51 }) (va_Pc [.ref h, .int (x), .int (y), .long (z)] (bh_prm D c (bh_mw h ad c (S)) sz)) (va_Qi (fun (r : Int32) (u : mS) => r = (bh_mpro S x y z).1 ∧ u = (bh_mpro S x y z).2) (fun u t => bh_post D c (bh_mw h ad c u) (va_A (bh_mw h ad c (S)) sz) t) (va_A (bh_mw h ad c (S)) sz)) 0 0 (va_A (bh_mw h ad c (S)) sz) := by
  refine Met.ofW (cc := cX4_propose) (maxL := 5) (ret := (some .boolean)) (by decide) rfl ?_
  intro p e s m args below meth c0 s₁ B hml hv
  obtain ⟨rfl, hsz, hP, hK, hD0⟩ := hv
  have hx := B.exec
  have hb := B.bytes
  have hr := B.returns
  have hts := atoms_spec (ws := wsX4_propose) B.pre
  have hown : s.vm.findClass RX4 = some m.cls := findClass_of_methodNamed B.named
  have hlocks := B.notSynchronized
  have hinX4 : ∀ w ∈ wsX40, w ∈ wsX4_propose := fun _ h => List.mem_cons_of_mem _ (List.mem_append_right _ h)
  have lk_24 : (Cond.fieldLink RX4 24 "BallotHouseModel" "state" "[I").before _ s = true := hts _ (by decide +kernel)
  have lk_42 : (Cond.fieldLink RX4 42 "BallotHouseModel" "found" "[I").before _ s = true := hts _ (by decide +kernel)
  have lk_45 : (Cond.fieldLink RX4 45 "BallotHouseModel" "proposed" "[I").before _ s = true := hts _ (by decide +kernel)
  have lk_60 : (Cond.fieldLink RX4 60 "BallotHouseModel" "says" "[J").before _ s = true := hts _ (by decide +kernel)
  subst hsz
  have hI := bh_start hP hD0
  generalize hAe : va_A (bh_mw h ad c (S)) s.heap.size = A at hI ⊢
  have hA : ∀ q : Nat, s.heap.size ≤ q → A q := fun q h => by rw [← hAe]; exact Or.inr h
  clear hP hD0 hAe
  have hl := lv_entry ([.ref h, .int (x), .int (y), .long (z)]) (n := 5) (Nat.le_of_ble_eq_true rfl)
  rw [lg_entry_eq]
  generalize (lg_sl ([.ref h, .int (x), .int (y), .long (z)]) ++ List.replicate (5 - (lg_sl ([.ref h, .int (x), .int (y), .long (z)])).length) Slot.unset).toArray = ls at hl ⊢
  have hl : lv_has ls 5 [(0, .ref h), (1, .int (x)), (2, .int (y)), (3, .long (z))] := hl
  rcases hx1 : bh_ixb x (S.1 18) with _ | b
  · refine lv_aload_n hx hb dX4_propose_0 rfl (lv_at hl 0 rfl) ?_
    refine lv_iload_n hx hb dX4_propose_1 rfl (lv_at hl 1 rfl) ?_
    refine vp_callSi (bn_roV (As := [.int (x)]) (rest := []) ⟨hx, hb, hml, hown, hts⟩ (cm_isBallot l D c h ad S (x) hk24) (cwV 1 hts gX4_propose_X4_isBallot rfl rfl rfl (by decide +kernel) ⟨Nat.le_of_ble_eq_true rfl, Nat.le_of_ble_eq_true rfl⟩) hK hI 0 3 rfl rfl rfl rfl hl.1 (Nat.le_of_ble_eq_true rfl) dX4_propose_2 ⟨Nat.le_of_ble_eq_true rfl, Nat.le_of_ble_eq_true rfl⟩) (fun r_1 er_1 => ?_)
    obtain rfl : r_1 = nI 0 := by rw [er_1, hx1]; rfl
    refine lv_if_eq (tgt := 46) hx hb dX4_propose_5 (by decide) (fun c_2 => ?_) (fun c_2 => ?_)
    · refine lv_iconst (v := nI 0) hx hb dX4_propose_46 (by decide) ?_
      exact bn_retz hx hb hr hlocks hK (S) hI (by unfold bh_mpro; rw [hx1]; exact ⟨rfl, rfl⟩) (by decide) dX4_propose_47
    · first | exact absurd c_2 (by decide) | exact absurd (by decide) c_2
  · obtain ⟨hb1, hb2, rfl⟩ := bh_ixb_some hx1
    refine lv_aload_n hx hb dX4_propose_0 rfl (lv_at hl 0 rfl) ?_
    refine lv_iload_n hx hb dX4_propose_1 rfl (lv_at hl 1 rfl) ?_
    refine vp_callSi (bn_roV (As := [.int (nI b)]) (rest := []) ⟨hx, hb, hml, hown, hts⟩ (cm_isBallot l D c h ad S (nI b) hk24) (cwV 1 hts gX4_propose_X4_isBallot rfl rfl rfl (by decide +kernel) ⟨Nat.le_of_ble_eq_true rfl, Nat.le_of_ble_eq_true rfl⟩) hK hI 0 3 rfl rfl rfl rfl hl.1 (Nat.le_of_ble_eq_true rfl) dX4_propose_2 ⟨Nat.le_of_ble_eq_true rfl, Nat.le_of_ble_eq_true rfl⟩) (fun r_3 er_3 => ?_)
    obtain rfl : r_3 = nI 1 := by rw [er_3, hx1]; rfl
    refine lv_if_eq (tgt := 46) hx hb dX4_propose_5 (by decide) (fun c_4 => ?_) (fun c_4 => ?_)
    · first | exact absurd c_4 (by decide) | exact absurd (by decide) c_4
    · rcases hx2 : bh_ix y 8 with _ | q
      · refine lv_iload_n hx hb dX4_propose_8 rfl (lv_at hl 2 rfl) ?_
        refine vp_callSi (bn_roS (As := [.int (y)]) (rest := []) ⟨hx, hb, hml, hown, hts⟩ (cm_isPlace l (y)) (va_cwS 1 hts gX4_propose_X4_isPlace rfl rfl rfl (by decide +kernel) ⟨Nat.le_of_ble_eq_true rfl, Nat.le_of_ble_eq_true rfl⟩) rfl hl.1 (Nat.le_of_ble_eq_true rfl) dX4_propose_9 ⟨Nat.le_of_ble_eq_true rfl, Nat.le_of_ble_eq_true rfl⟩) (fun r_5 er_5 => ?_)
        obtain rfl : r_5 = nI 0 := by rw [er_5, hx2]; rfl
        refine lv_if_eq (tgt := 46) hx hb dX4_propose_12 (by decide) (fun c_6 => ?_) (fun c_6 => ?_)
        · refine lv_iconst (v := nI 0) hx hb dX4_propose_46 (by decide) ?_
          exact bn_retz hx hb hr hlocks hK (S) hI (by unfold bh_mpro; rw [hx1]; dsimp only; rw [hx2]; exact ⟨rfl, rfl⟩) (by decide) dX4_propose_47
        · first | exact absurd c_6 (by decide) | exact absurd (by decide) c_6
      · obtain ⟨hq, rfl⟩ := bh_ix_some hx2
        refine lv_iload_n hx hb dX4_propose_8 rfl (lv_at hl 2 rfl) ?_
        refine vp_callSi (bn_roS (As := [.int (nI q)]) (rest := []) ⟨hx, hb, hml, hown, hts⟩ (cm_isPlace l (nI q)) (va_cwS 1 hts gX4_propose_X4_isPlace rfl rfl rfl (by decide +kernel) ⟨Nat.le_of_ble_eq_true rfl, Nat.le_of_ble_eq_true rfl⟩) rfl hl.1 (Nat.le_of_ble_eq_true rfl) dX4_propose_9 ⟨Nat.le_of_ble_eq_true rfl, Nat.le_of_ble_eq_true rfl⟩) (fun r_7 er_7 => ?_)
        obtain rfl : r_7 = nI 1 := by rw [er_7, hx2]; rfl
        refine lv_if_eq (tgt := 46) hx hb dX4_propose_12 (by decide) (fun c_8 => ?_) (fun c_8 => ?_)
        · first | exact absurd c_8 (by decide) | exact absurd (by decide) c_8
        · refine lv_aload_n hx hb dX4_propose_15 rfl (lv_at hl 0 rfl) ?_
          refine bn_get (ci := 3) (v := .ref (ad 5)) (C := RX4) (T := TX4) (N := 31) hx hb hts hinX4 hown hK hI 0 rfl rfl 5 (by decide) lk_24 rfl (rfl) dX4_propose_16 ?_
          refine lv_iload_n hx hb dX4_propose_19 rfl (lv_at hl 1 rfl) ?_
          refine bn_iald (n := 25) (v := S.2.2.1 5 b) hx hb hK hI 5 0 rfl rfl (by omega) (by first | decide | omega) (rfl) dX4_propose_20 ?_
          refine lv_iconst (v := nI 4) hx hb dX4_propose_21 (by decide) ?_
          refine lv_icmp_ne (tgt := 46) hx hb dX4_propose_22 (by decide) (fun c_9 => ?_) (fun c_9 => ?_)
          · refine lv_iconst (v := nI 0) hx hb dX4_propose_46 (by decide) ?_
            exact bn_retz hx hb hr hlocks hK (S) hI (by unfold bh_mpro; rw [hx1]; dsimp only; rw [hx2]; dsimp only; rw [if_neg (fun w => c_9 w.1)]; exact ⟨rfl, rfl⟩) (by decide) dX4_propose_47
          · refine lv_aload_n hx hb dX4_propose_25 rfl (lv_at hl 0 rfl) ?_
            refine bn_get (ci := 3) (v := .ref (ad 11)) (C := RX4) (T := TX4) (N := 31) hx hb hts hinX4 hown hK hI 0 rfl rfl 11 (by decide) lk_42 rfl (rfl) dX4_propose_26 ?_
            refine lv_iload_n hx hb dX4_propose_29 rfl (lv_at hl 1 rfl) ?_
            refine bn_iald (n := 25) (v := S.2.2.1 11 b) hx hb hK hI 11 0 rfl rfl (by omega) (by first | decide | omega) (rfl) dX4_propose_30 ?_
            refine lv_aload_n hx hb dX4_propose_31 rfl (lv_at hl 0 rfl) ?_
            refine bn_get (ci := 3) (v := .ref (ad 12)) (C := RX4) (T := TX4) (N := 31) hx hb hts hinX4 hown hK hI 0 rfl rfl 12 (by decide) lk_45 rfl (rfl) dX4_propose_32 ?_
            refine lv_iload_n hx hb dX4_propose_35 rfl (lv_at hl 1 rfl) ?_
            refine bn_iald (n := 25) (v := S.2.2.1 12 b) hx hb hK hI 12 0 rfl rfl (by omega) (by first | decide | omega) (rfl) dX4_propose_36 ?_
            refine lv_ior hx hb dX4_propose_37 ?_
            refine lv_iload_n hx hb dX4_propose_38 rfl (lv_at hl 2 rfl) ?_
            refine lv_ishr hx hb dX4_propose_39 ?_
            refine lv_iconst (v := nI 1) hx hb dX4_propose_40 (by decide) ?_
            refine lv_iand hx hb dX4_propose_41 ?_
            refine lv_iconst (v := nI 1) hx hb dX4_propose_42 (by decide) ?_
            refine lv_icmp_ne (tgt := 48) hx hb dX4_propose_43 (by decide) (fun c_10 => ?_) (fun c_10 => ?_)
            · refine lv_aload_n hx hb dX4_propose_48 rfl (lv_at hl 0 rfl) ?_
              refine bn_get (ci := 3) (v := .ref (ad 12)) (C := RX4) (T := TX4) (N := 31) hx hb hts hinX4 hown hK hI 0 rfl rfl 12 (by decide) lk_45 rfl (rfl) dX4_propose_49 ?_
              refine lv_iload_n hx hb dX4_propose_52 rfl (lv_at hl 1 rfl) ?_
              refine lv_dup2_11 hx hb dX4_propose_53 rfl rfl ?_
              refine bn_iald (n := 25) (v := S.2.2.1 12 b) hx hb hK hI 12 0 rfl rfl (by omega) (by first | decide | omega) (rfl) dX4_propose_54 ?_
              refine lv_iconst (v := nI 1) hx hb dX4_propose_55 (by decide) ?_
              refine lv_iload_n hx hb dX4_propose_56 rfl (lv_at hl 2 rfl) ?_
              refine lv_ishl hx hb dX4_propose_57 ?_
              refine lv_ior hx hb dX4_propose_58 ?_
              refine bn_iast (n := 25) (ws' := bh_mw h ad c (bh_r S 12 b ((S.2.2.1 12 b) ||| ((nI 1) <<< ((nI q) &&& 31))))) hx hb hK hI 12 0 rfl rfl (by omega) (by first | decide | omega) dX4_propose_59 rfl (fun H locs hI => ?_)
              refine lv_aload_n hx hb dX4_propose_60 rfl (lv_at hl 0 rfl) ?_
              refine bn_get (ci := 3) (v := .ref (ad 17)) (C := RX4) (T := TX4) (N := 31) hx hb hts hinX4 hown hK hI 0 rfl rfl 17 (by decide) lk_60 rfl (rfl) dX4_propose_61 ?_
              refine lv_bipush (v := nI 8) hx hb dX4_propose_64 (by decide) ?_
              refine lv_iload_n hx hb dX4_propose_66 rfl (lv_at hl 1 rfl) ?_
              refine bn_imul hx hb dX4_propose_67 ?_
              refine lv_iload_n hx hb dX4_propose_68 rfl (lv_at hl 2 rfl) ?_
              refine bn_iadd hx hb dX4_propose_69 ?_
              refine lv_lload_n hx hb dX4_propose_70 rfl (lv_at hl 3 rfl) ?_
              refine bn_last (n := 200) (ws' := bh_mw h ad c (bh_l (bh_r S 12 b ((S.2.2.1 12 b) ||| ((nI 1) <<< ((nI q) &&& 31)))) 17 ((8 * b) + q) z)) hx hb hK hI 17 1 rfl rfl (by omega) (by first | decide | omega) dX4_propose_71 rfl (fun H locs hI => ?_)
              refine lv_aload_n hx hb dX4_propose_72 rfl (lv_at hl 0 rfl) ?_
              refine lv_iload_n hx hb dX4_propose_73 rfl (lv_at hl 1 rfl) ?_
              refine lv_iload_n hx hb dX4_propose_74 rfl (lv_at hl 2 rfl) ?_
              refine bn_mui (bn_muV (As := [.int (nI b), .int (nI q)]) (rest := []) ⟨hx, hb, hml, hown, hts⟩ (cm_sendVotes l D c h ad _ (bh_l (bh_r S 12 b (S.2.2.1 12 b ||| bh_bit q)) 17 (8 * b + q) z) b q (by omega) hq ha hn) (cwV 2 hts gX4_propose_X4_sendVotes rfl rfl rfl (by decide +kernel) ⟨Nat.le_of_ble_eq_true rfl, Nat.le_of_ble_eq_true rfl⟩) hK hI 0 3 rfl rfl rfl rfl hl.1 (Nat.le_of_ble_eq_true rfl) dX4_propose_75 ⟨Nat.le_of_ble_eq_true rfl, Nat.le_of_ble_eq_true rfl⟩) hI hA (fun r_11 u_11 H locs eu_11 hI => ?_)
              obtain ⟨er_11, eu_11⟩ := eu_11
              subst er_11
              subst eu_11
              refine lv_pop hx hb dX4_propose_78 rfl ?_
              refine lv_iconst (v := nI 1) hx hb dX4_propose_79 (by decide) ?_
              exact bn_retz hx hb hr hlocks hK (bh_pro S b q z) hI (by unfold bh_mpro; rw [hx1]; dsimp only; rw [hx2]; dsimp only; rw [if_pos ⟨c_9, c_10⟩]; exact ⟨rfl, rfl⟩) (by decide) dX4_propose_80
            · refine lv_iconst (v := nI 0) hx hb dX4_propose_46 (by decide) ?_
              exact bn_retz hx hb hr hlocks hK (S) hI (by unfold bh_mpro; rw [hx1]; dsimp only; rw [hx2]; dsimp only; rw [if_neg (fun w => w.2 c_10)]; exact ⟨rfl, rfl⟩) (by decide) dX4_propose_47
set_option maxHeartbeats 4000000 in
set_option maxRecDepth 100000 in
theorem cm_again (l : Launch) (D : va_G) (c : bh_C) (h : Nat) (ad : Nat → Nat) (sz : Nat) (S : mS) (x : Int32) (ha : S.1 28 ≤ 400) (hn : S.1 0 ≤ 7) (hk24 : S.1 18 ≤ 24) (hgb : ∀ b, 1 ≤ b → b ≤ S.1 18 → ∃ g, g ≤ 24 ∧ S.2.2.1 9 b = nI g) : Met l yX4_again wsX4_again ({ frames := 3, cells := 0, slots := 0, locals := 67 }) (va_Pc [.ref h, .int (x)] (bh_prm D c (bh_mw h ad c (S)) sz)) (va_Qi (fun (r : Int32) (u : mS) => r = (bh_magn S x).1 ∧ u = (bh_magn S x).2) (fun u t => bh_post D c (bh_mw h ad c u) (va_A (bh_mw h ad c (S)) sz) t) (va_A (bh_mw h ad c (S)) sz)) 0 0 (va_A (bh_mw h ad c (S)) sz) := by
  refine Met.ofW (cc := cX4_again) (maxL := 4) (ret := (some .int)) (by decide) rfl ?_
  intro p e s m args below meth c0 s₁ B hml hv
  obtain ⟨rfl, hsz, hP, hK, hD0⟩ := hv
  have hx := B.exec
  have hb := B.bytes
  have hr := B.returns
  have hts := atoms_spec (ws := wsX4_again) B.pre
  have hown : s.vm.findClass RX4 = some m.cls := findClass_of_methodNamed B.named
  have hlocks := B.notSynchronized
  have hinX4 : ∀ w ∈ wsX40, w ∈ wsX4_again := fun _ h => List.mem_cons_of_mem _ (List.mem_append_right _ h)
  have lk_24 : (Cond.fieldLink RX4 24 "BallotHouseModel" "state" "[I").before _ s = true := hts _ (by decide +kernel)
  have lk_42 : (Cond.fieldLink RX4 42 "BallotHouseModel" "found" "[I").before _ s = true := hts _ (by decide +kernel)
  have lk_45 : (Cond.fieldLink RX4 45 "BallotHouseModel" "proposed" "[I").before _ s = true := hts _ (by decide +kernel)
  have lk_48 : (Cond.fieldLink RX4 48 "BallotHouseModel" "known" "[I").before _ s = true := hts _ (by decide +kernel)
  subst hsz
  have hI := bh_start hP hD0
  generalize hAe : va_A (bh_mw h ad c (S)) s.heap.size = A at hI ⊢
  have hA : ∀ q : Nat, s.heap.size ≤ q → A q := fun q h => by rw [← hAe]; exact Or.inr h
  clear hP hD0 hAe
  have hl := lv_entry ([.ref h, .int (x)]) (n := 4) (Nat.le_of_ble_eq_true rfl)
  rw [lg_entry_eq]
  generalize (lg_sl ([.ref h, .int (x)]) ++ List.replicate (4 - (lg_sl ([.ref h, .int (x)])).length) Slot.unset).toArray = ls at hl ⊢
  have hl : lv_has ls 4 [(0, .ref h), (1, .int (x))] := hl
  rcases hx1 : bh_ixb x (S.1 18) with _ | b
  · refine lv_aload_n hx hb dX4_again_0 rfl (lv_at hl 0 rfl) ?_
    refine lv_iload_n hx hb dX4_again_1 rfl (lv_at hl 1 rfl) ?_
    refine vp_callSi (bn_roV (As := [.int (x)]) (rest := []) ⟨hx, hb, hml, hown, hts⟩ (cm_isBallot l D c h ad S (x) hk24) (cwV 1 hts gX4_again_X4_isBallot rfl rfl rfl (by decide +kernel) ⟨Nat.le_of_ble_eq_true rfl, Nat.le_of_ble_eq_true rfl⟩) hK hI 0 3 rfl rfl rfl rfl hl.1 (Nat.le_of_ble_eq_true rfl) dX4_again_2 ⟨Nat.le_of_ble_eq_true rfl, Nat.le_of_ble_eq_true rfl⟩) (fun r_1 er_1 => ?_)
    obtain rfl : r_1 = nI 0 := by rw [er_1, hx1]; rfl
    refine lv_if_ne (tgt := 10) hx hb dX4_again_5 (by decide) (fun c_2 => ?_) (fun c_2 => ?_)
    · first | exact absurd c_2 (by decide) | exact absurd (by decide) c_2
    · refine lv_iconst (v := -1) hx hb dX4_again_8 (by decide) ?_
      exact bn_reti hx hb hr hlocks hK (S) hI (by unfold bh_magn; rw [hx1]; exact ⟨rfl, rfl⟩) dX4_again_9
  · obtain ⟨hb1, hb2, rfl⟩ := bh_ixb_some hx1
    refine lv_aload_n hx hb dX4_again_0 rfl (lv_at hl 0 rfl) ?_
    refine lv_iload_n hx hb dX4_again_1 rfl (lv_at hl 1 rfl) ?_
    refine vp_callSi (bn_roV (As := [.int (nI b)]) (rest := []) ⟨hx, hb, hml, hown, hts⟩ (cm_isBallot l D c h ad S (nI b) hk24) (cwV 1 hts gX4_again_X4_isBallot rfl rfl rfl (by decide +kernel) ⟨Nat.le_of_ble_eq_true rfl, Nat.le_of_ble_eq_true rfl⟩) hK hI 0 3 rfl rfl rfl rfl hl.1 (Nat.le_of_ble_eq_true rfl) dX4_again_2 ⟨Nat.le_of_ble_eq_true rfl, Nat.le_of_ble_eq_true rfl⟩) (fun r_3 er_3 => ?_)
    obtain rfl : r_3 = nI 1 := by rw [er_3, hx1]; rfl
    refine lv_if_ne (tgt := 10) hx hb dX4_again_5 (by decide) (fun c_4 => ?_) (fun c_4 => ?_)
    · rcases bh_st4 (S.2.2.1 5 b) with hs0 | hs1 | hs2 | hs3 | hs9
      · refine lv_aload_n hx hb dX4_again_10 rfl (lv_at hl 0 rfl) ?_
        obtain ⟨g, hg24, hg⟩ := hgb b hb1 hb2
        have hgc : (S.2.2.1 9 b).toNatClampNeg = g := by rw [hg]; exact nI_clamp (by omega)
        refine bn_get (ci := 3) (v := .ref (ad 5)) (C := RX4) (T := TX4) (N := 31) hx hb hts hinX4 hown hK hI 0 rfl rfl 5 (by decide) lk_24 rfl (rfl) dX4_again_11 ?_
        refine lv_iload_n hx hb dX4_again_14 rfl (lv_at hl 1 rfl) ?_
        refine bn_iald (n := 25) (v := nI 0) hx hb hK hI 5 0 rfl rfl (by omega) (by first | decide | omega) (hs0) dX4_again_15 ?_
        refine lv_tableIn (tgt := 48) hx hb dX4_again_16 (by decide) (by decide) rfl (by decide) ?_
        refine lv_aload_n hx hb dX4_again_48 rfl (lv_at hl 0 rfl) ?_
        refine lv_iconst (v := nI 1) hx hb dX4_again_49 (by decide) ?_
        refine lv_iload_n hx hb dX4_again_50 rfl (lv_at hl 1 rfl) ?_
        refine lv_iconst (v := -1) hx hb dX4_again_51 (by decide) ?_
        refine lv_iconst (v := -1) hx hb dX4_again_52 (by decide) ?_
        refine lv_lconst (v := 0) hx hb dX4_again_53 (by decide) ?_
        refine bn_muv (bn_muV (As := [.int (nI 1), .int (nI b), .int (-1), .int (-1), .long (0)]) (rest := []) ⟨hx, hb, hml, hown, hts⟩ (cm_put l D c h ad _ (S) 1 (nI b) (-1) (-1) (0) (ha) (by omega) (by omega)) (cwV 5 hts gX4_again_X4_put rfl rfl rfl (by decide +kernel) ⟨Nat.le_of_ble_eq_true rfl, Nat.le_of_ble_eq_true rfl⟩) hK hI 0 3 rfl rfl rfl rfl hl.1 (Nat.le_of_ble_eq_true rfl) dX4_again_54 ⟨Nat.le_of_ble_eq_true rfl, Nat.le_of_ble_eq_true rfl⟩) hI hA (fun u_5 H locs eu_5 hI => ?_)
        subst eu_5
        refine lv_iconst (v := nI 1) hx hb dX4_again_57 (by decide) ?_
        exact bn_reti hx hb hr hlocks hK (bh_put (S) (nI 1) (nI b) (-1) (-1) 0 bh_z0 bh_z1) hI (by unfold bh_magn; rw [hx1]; dsimp only; rw [hgc]; unfold bh_ag; rw [if_pos hs0]; exact ⟨rfl, rfl⟩) dX4_again_58
      · refine lv_aload_n hx hb dX4_again_10 rfl (lv_at hl 0 rfl) ?_
        obtain ⟨g, hg24, hg⟩ := hgb b hb1 hb2
        have hgc : (S.2.2.1 9 b).toNatClampNeg = g := by rw [hg]; exact nI_clamp (by omega)
        refine bn_get (ci := 3) (v := .ref (ad 5)) (C := RX4) (T := TX4) (N := 31) hx hb hts hinX4 hown hK hI 0 rfl rfl 5 (by decide) lk_24 rfl (rfl) dX4_again_11 ?_
        refine lv_iload_n hx hb dX4_again_14 rfl (lv_at hl 1 rfl) ?_
        refine bn_iald (n := 25) (v := nI 1) hx hb hK hI 5 0 rfl rfl (by omega) (by first | decide | omega) (hs1) dX4_again_15 ?_
        refine lv_tableIn (tgt := 59) hx hb dX4_again_16 (by decide) (by decide) rfl (by decide) ?_
        refine lv_aload_n hx hb dX4_again_59 rfl (lv_at hl 0 rfl) ?_
        refine lv_iload_n hx hb dX4_again_60 rfl (lv_at hl 1 rfl) ?_
        refine bn_mui (bn_muV (As := [.int (nI b)]) (rest := []) ⟨hx, hb, hml, hown, hts⟩ (cm_sendReads l D c h ad _ S b (by omega) g hg hg24 ha hn) (cwV 1 hts gX4_again_X4_sendReads rfl rfl rfl (by decide +kernel) ⟨Nat.le_of_ble_eq_true rfl, Nat.le_of_ble_eq_true rfl⟩) hK hI 0 3 rfl rfl rfl rfl hl.1 (Nat.le_of_ble_eq_true rfl) dX4_again_61 ⟨Nat.le_of_ble_eq_true rfl, Nat.le_of_ble_eq_true rfl⟩) hI hA (fun r_6 u_6 H locs eu_6 hI => ?_)
        obtain ⟨er_6, eu_6⟩ := eu_6
        subst er_6
        subst eu_6
        exact bn_reti hx hb hr hlocks hK ((bh_sr S b g).2) hI (by unfold bh_magn; rw [hx1]; dsimp only; rw [hgc]; unfold bh_ag; rw [if_neg (by rw [hs1]; decide), if_pos hs1]; exact ⟨rfl, rfl⟩) dX4_again_64
      · have hn0 : ¬ S.2.2.1 5 b = nI 0 := by rw [hs2]; decide
        have hn1 : ¬ S.2.2.1 5 b = nI 1 := by rw [hs2]; decide
        have hn3 : ¬ S.2.2.1 5 b = nI 3 := by rw [hs2]; decide
        refine lv_aload_n hx hb dX4_again_10 rfl (lv_at hl 0 rfl) ?_
        obtain ⟨g, hg24, hg⟩ := hgb b hb1 hb2
        have hgc : (S.2.2.1 9 b).toNatClampNeg = g := by rw [hg]; exact nI_clamp (by omega)
        refine bn_get (ci := 3) (v := .ref (ad 5)) (C := RX4) (T := TX4) (N := 31) hx hb hts hinX4 hown hK hI 0 rfl rfl 5 (by decide) lk_24 rfl (rfl) dX4_again_11 ?_
        refine lv_iload_n hx hb dX4_again_14 rfl (lv_at hl 1 rfl) ?_
        refine bn_iald (n := 25) (v := nI 2) hx hb hK hI 5 0 rfl rfl (by omega) (by first | decide | omega) (hs2) dX4_again_15 ?_
        refine lv_tableIn (tgt := 77) hx hb dX4_again_16 (by decide) (by decide) rfl (by decide) ?_
        refine lv_iconst (v := nI 0) hx hb dX4_again_77 (by decide) ?_
        refine lv_istore_n (lv' := [(2, .int (nI 0)), (0, .ref h), (1, .int (nI b))]) hx hb dX4_again_78 rfl hl (by decide) rfl (fun ls hl => ?_)
        refine lv_iconst (v := nI 0) hx hb dX4_again_79 (by decide) ?_
        refine lv_istore_n (lv' := [(3, .int (nI 0)), (2, .int (nI 0)), (0, .ref h), (1, .int (nI b))]) hx hb dX4_again_80 rfl hl (by decide) rfl (fun ls hl => ?_)
        refine bh_loop (σ := Nat) (fun (q : Nat) H locs ls => q ≤ 8 ∧ bh_I D (bh_mw h ad c ((bh_agL S b q).2)) A s.heap H locs ∧ lv_has ls 4 [(3, .int (nI q)), (2, .int (nI ((bh_agL S b q).1))), (0, .ref h), (1, .int (nI b))]) (fun (q : Nat) => 8 - q) (fun q H locs ls hx_7 ih_7 => ?_) 0 _ _ _ ⟨Nat.zero_le 8, hI, lv_sub hl [0, 1, 2, 3] rfl⟩
        clear hl hI
        obtain ⟨hq, hI, hl⟩ := hx_7
        have hkp := bh_agL_kp S b q
        have hle := bh_agL_le ha b q
        refine lv_iload_n hx hb dX4_again_81 rfl (lv_at hl 0 rfl) ?_
        refine lv_bipush (v := nI 8) hx hb dX4_again_82 (by decide) ?_
        refine bn_cmp_ge (tgt := 132) hx hb (by omega) (by omega) dX4_again_84 (by decide) (fun c_8 => ?_) (fun c_8 => ?_)
        · refine lv_iload_n hx hb dX4_again_132 rfl (lv_at hl 1 rfl) ?_
          exact bn_reti hx hb hr hlocks hK ((bh_agL S b q).2) hI (by unfold bh_magn; rw [hx1]; dsimp only; rw [hgc]; unfold bh_ag; rw [if_neg hn0, if_neg hn1, if_neg hn3, show q = 8 by omega]; exact ⟨rfl, rfl⟩) dX4_again_133
        · refine lv_aload_n hx hb dX4_again_87 rfl (lv_at hl 2 rfl) ?_
          refine bn_get (ci := 3) (v := .ref (ad 11)) (C := RX4) (T := TX4) (N := 31) hx hb hts hinX4 hown hK hI 0 rfl rfl 11 (by decide) lk_42 rfl (rfl) dX4_again_88 ?_
          refine lv_iload_n hx hb dX4_again_91 rfl (lv_at hl 3 rfl) ?_
          refine bn_iald (n := 25) (v := S.2.2.1 11 b) hx hb hK hI 11 0 rfl rfl (by omega) (by first | decide | omega) (by rw [(hkp.2 11 (by omega)).1]) dX4_again_92 ?_
          refine lv_aload_n hx hb dX4_again_93 rfl (lv_at hl 2 rfl) ?_
          refine bn_get (ci := 3) (v := .ref (ad 12)) (C := RX4) (T := TX4) (N := 31) hx hb hts hinX4 hown hK hI 0 rfl rfl 12 (by decide) lk_45 rfl (rfl) dX4_again_94 ?_
          refine lv_iload_n hx hb dX4_again_97 rfl (lv_at hl 3 rfl) ?_
          refine bn_iald (n := 25) (v := S.2.2.1 12 b) hx hb hK hI 12 0 rfl rfl (by omega) (by first | decide | omega) (by rw [(hkp.2 12 (by omega)).1]) dX4_again_98 ?_
          refine lv_ior hx hb dX4_again_99 ?_
          refine lv_aload_n hx hb dX4_again_100 rfl (lv_at hl 2 rfl) ?_
          refine bn_get (ci := 3) (v := .ref (ad 13)) (C := RX4) (T := TX4) (N := 31) hx hb hts hinX4 hown hK hI 0 rfl rfl 13 (by decide) lk_48 rfl (rfl) dX4_again_101 ?_
          refine lv_iload_n hx hb dX4_again_104 rfl (lv_at hl 3 rfl) ?_
          refine bn_iald (n := 25) (v := S.2.2.1 13 b) hx hb hK hI 13 0 rfl rfl (by omega) (by first | decide | omega) (by rw [(hkp.2 13 (by omega)).1]) dX4_again_105 ?_
          refine lv_iconst (v := -1) hx hb dX4_again_106 (by decide) ?_
          refine lv_ixor hx hb dX4_again_107 ?_
          refine lv_iand hx hb dX4_again_108 ?_
          refine lv_iload_n hx hb dX4_again_109 rfl (lv_at hl 0 rfl) ?_
          refine lv_ishr hx hb dX4_again_110 ?_
          refine lv_iconst (v := nI 1) hx hb dX4_again_111 (by decide) ?_
          refine lv_iand hx hb dX4_again_112 ?_
          refine lv_iconst (v := nI 1) hx hb dX4_again_113 (by decide) ?_
          refine lv_icmp_ne (tgt := 126) hx hb dX4_again_114 (by decide) (fun c_9 => ?_) (fun c_9 => ?_)
          · have q_1 : ¬ bh_agC S b q = nI 1 := c_9
            refine lv_iinc (v := nI (q + 1)) (lv' := [(3, .int (nI (q + 1))), (2, .int (nI ((bh_agL S b q).1))), (0, .ref h), (1, .int (nI b))]) hx hb dX4_again_126 hl (k := 0) rfl (nI_1 _) (by decide) rfl (fun ls hl => ?_)
            refine lv_goto (tgt := 81) hx hb dX4_again_129 (by decide) ?_
            exact ih_7 (q + 1) _ _ _ ⟨by omega, (by rw [show bh_agL S b (q + 1) = _ from if_neg q_1]; exact hI), (by rw [show bh_agL S b (q + 1) = _ from if_neg q_1]; exact (lv_sub hl [0, 1, 2, 3] rfl))⟩ (by show 8 - (q + 1) < 8 - q; omega)
          · have q_1 : bh_agC S b q = nI 1 := c_9
            refine lv_iload_n hx hb dX4_again_117 rfl (lv_at hl 1 rfl) ?_
            refine lv_aload_n hx hb dX4_again_118 rfl (lv_at hl 2 rfl) ?_
            refine lv_iload_n hx hb dX4_again_119 rfl (lv_at hl 3 rfl) ?_
            refine lv_iload_n hx hb dX4_again_120 rfl (lv_at hl 0 rfl) ?_
            refine bn_mui (bn_muV (As := [.int (nI b), .int (nI q)]) (rest := [.int (nI ((bh_agL S b q).1))]) ⟨hx, hb, hml, hown, hts⟩ (cm_sendVotes l D c h ad _ (bh_agL S b q).2 b q (by omega) (by omega) hle (by rw [hkp.1.1]; exact hn)) (cwV 2 hts gX4_again_X4_sendVotes rfl rfl rfl (by decide +kernel) ⟨Nat.le_of_ble_eq_true rfl, Nat.le_of_ble_eq_true rfl⟩) hK hI 0 3 rfl rfl rfl rfl hl.1 (Nat.le_of_ble_eq_true rfl) dX4_again_121 ⟨Nat.le_of_ble_eq_true rfl, Nat.le_of_ble_eq_true rfl⟩) hI hA (fun r_10 u_10 H locs eu_10 hI => ?_)
            obtain ⟨er_10, eu_10⟩ := eu_10
            subst er_10
            subst eu_10
            refine bn_iadd hx hb dX4_again_124 ?_
            refine lv_istore_n (lv' := [(2, .int (nI (((bh_agL S b q).1) + ((bh_sv (bh_agL S b q).2 b q).1)))), (3, .int (nI q)), (0, .ref h), (1, .int (nI b))]) hx hb dX4_again_125 rfl hl (by decide) rfl (fun ls hl => ?_)
            refine lv_iinc (v := nI (q + 1)) (lv' := [(3, .int (nI (q + 1))), (2, .int (nI (((bh_agL S b q).1) + ((bh_sv (bh_agL S b q).2 b q).1)))), (0, .ref h), (1, .int (nI b))]) hx hb dX4_again_126 hl (k := 1) rfl (nI_1 _) (by decide) rfl (fun ls hl => ?_)
            refine lv_goto (tgt := 81) hx hb dX4_again_129 (by decide) ?_
            exact ih_7 (q + 1) _ _ _ ⟨by omega, (by rw [show bh_agL S b (q + 1) = _ from if_pos q_1]; exact hI), (by rw [show bh_agL S b (q + 1) = _ from if_pos q_1]; exact (lv_sub hl [0, 1, 2, 3] rfl))⟩ (by show 8 - (q + 1) < 8 - q; omega)
      · refine lv_aload_n hx hb dX4_again_10 rfl (lv_at hl 0 rfl) ?_
        obtain ⟨g, hg24, hg⟩ := hgb b hb1 hb2
        have hgc : (S.2.2.1 9 b).toNatClampNeg = g := by rw [hg]; exact nI_clamp (by omega)
        refine bn_get (ci := 3) (v := .ref (ad 5)) (C := RX4) (T := TX4) (N := 31) hx hb hts hinX4 hown hK hI 0 rfl rfl 5 (by decide) lk_24 rfl (rfl) dX4_again_11 ?_
        refine lv_iload_n hx hb dX4_again_14 rfl (lv_at hl 1 rfl) ?_
        refine bn_iald (n := 25) (v := nI 3) hx hb hK hI 5 0 rfl rfl (by omega) (by first | decide | omega) (hs3) dX4_again_15 ?_
        refine lv_tableIn (tgt := 65) hx hb dX4_again_16 (by decide) (by decide) rfl (by decide) ?_
        refine lv_aload_n hx hb dX4_again_65 rfl (lv_at hl 0 rfl) ?_
        refine lv_bipush (v := nI 6) hx hb dX4_again_66 (by decide) ?_
        refine lv_iload_n hx hb dX4_again_68 rfl (lv_at hl 1 rfl) ?_
        refine lv_iconst (v := -1) hx hb dX4_again_69 (by decide) ?_
        refine lv_iconst (v := -1) hx hb dX4_again_70 (by decide) ?_
        refine lv_lconst (v := 0) hx hb dX4_again_71 (by decide) ?_
        refine bn_muv (bn_muV (As := [.int (nI 6), .int (nI b), .int (-1), .int (-1), .long (0)]) (rest := []) ⟨hx, hb, hml, hown, hts⟩ (cm_put l D c h ad _ (S) 6 (nI b) (-1) (-1) (0) (ha) (by omega) (by omega)) (cwV 5 hts gX4_again_X4_put rfl rfl rfl (by decide +kernel) ⟨Nat.le_of_ble_eq_true rfl, Nat.le_of_ble_eq_true rfl⟩) hK hI 0 3 rfl rfl rfl rfl hl.1 (Nat.le_of_ble_eq_true rfl) dX4_again_72 ⟨Nat.le_of_ble_eq_true rfl, Nat.le_of_ble_eq_true rfl⟩) hI hA (fun u_11 H locs eu_11 hI => ?_)
        subst eu_11
        refine lv_iconst (v := nI 1) hx hb dX4_again_75 (by decide) ?_
        exact bn_reti hx hb hr hlocks hK (bh_put (S) (nI 6) (nI b) (-1) (-1) 0 bh_z0 bh_z1) hI (by unfold bh_magn; rw [hx1]; dsimp only; rw [hgc]; unfold bh_ag; rw [if_neg (by rw [hs3]; decide), if_neg (by rw [hs3]; decide), if_pos hs3]; exact ⟨rfl, rfl⟩) dX4_again_76
      · have hn0 : ¬ S.2.2.1 5 b = nI 0 := fun w => by rw [w] at hs9; exact absurd hs9 (by decide)
        have hn1 : ¬ S.2.2.1 5 b = nI 1 := fun w => by rw [w] at hs9; exact absurd hs9 (by decide)
        have hn3 : ¬ S.2.2.1 5 b = nI 3 := fun w => by rw [w] at hs9; exact absurd hs9 (by decide)
        refine lv_aload_n hx hb dX4_again_10 rfl (lv_at hl 0 rfl) ?_
        obtain ⟨g, hg24, hg⟩ := hgb b hb1 hb2
        have hgc : (S.2.2.1 9 b).toNatClampNeg = g := by rw [hg]; exact nI_clamp (by omega)
        refine bn_get (ci := 3) (v := .ref (ad 5)) (C := RX4) (T := TX4) (N := 31) hx hb hts hinX4 hown hK hI 0 rfl rfl 5 (by decide) lk_24 rfl (rfl) dX4_again_11 ?_
        refine lv_iload_n hx hb dX4_again_14 rfl (lv_at hl 1 rfl) ?_
        refine bn_iald (n := 25) (v := S.2.2.1 5 b) hx hb hK hI 5 0 rfl rfl (by omega) (by first | decide | omega) (rfl) dX4_again_15 ?_
        refine lv_tableOut (tgt := 77) hx hb dX4_again_16 (by have h9 := bh_ix_none hs9; omega) (by decide) ?_
        refine lv_iconst (v := nI 0) hx hb dX4_again_77 (by decide) ?_
        refine lv_istore_n (lv' := [(2, .int (nI 0)), (0, .ref h), (1, .int (nI b))]) hx hb dX4_again_78 rfl hl (by decide) rfl (fun ls hl => ?_)
        refine lv_iconst (v := nI 0) hx hb dX4_again_79 (by decide) ?_
        refine lv_istore_n (lv' := [(3, .int (nI 0)), (2, .int (nI 0)), (0, .ref h), (1, .int (nI b))]) hx hb dX4_again_80 rfl hl (by decide) rfl (fun ls hl => ?_)
        refine bh_loop (σ := Nat) (fun (q : Nat) H locs ls => q ≤ 8 ∧ bh_I D (bh_mw h ad c ((bh_agL S b q).2)) A s.heap H locs ∧ lv_has ls 4 [(3, .int (nI q)), (2, .int (nI ((bh_agL S b q).1))), (0, .ref h), (1, .int (nI b))]) (fun (q : Nat) => 8 - q) (fun q H locs ls hx_12 ih_12 => ?_) 0 _ _ _ ⟨Nat.zero_le 8, hI, lv_sub hl [0, 1, 2, 3] rfl⟩
        clear hl hI
        obtain ⟨hq, hI, hl⟩ := hx_12
        have hkp := bh_agL_kp S b q
        have hle := bh_agL_le ha b q
        refine lv_iload_n hx hb dX4_again_81 rfl (lv_at hl 0 rfl) ?_
        refine lv_bipush (v := nI 8) hx hb dX4_again_82 (by decide) ?_
        refine bn_cmp_ge (tgt := 132) hx hb (by omega) (by omega) dX4_again_84 (by decide) (fun c_13 => ?_) (fun c_13 => ?_)
        · refine lv_iload_n hx hb dX4_again_132 rfl (lv_at hl 1 rfl) ?_
          exact bn_reti hx hb hr hlocks hK ((bh_agL S b q).2) hI (by unfold bh_magn; rw [hx1]; dsimp only; rw [hgc]; unfold bh_ag; rw [if_neg hn0, if_neg hn1, if_neg hn3, show q = 8 by omega]; exact ⟨rfl, rfl⟩) dX4_again_133
        · refine lv_aload_n hx hb dX4_again_87 rfl (lv_at hl 2 rfl) ?_
          refine bn_get (ci := 3) (v := .ref (ad 11)) (C := RX4) (T := TX4) (N := 31) hx hb hts hinX4 hown hK hI 0 rfl rfl 11 (by decide) lk_42 rfl (rfl) dX4_again_88 ?_
          refine lv_iload_n hx hb dX4_again_91 rfl (lv_at hl 3 rfl) ?_
          refine bn_iald (n := 25) (v := S.2.2.1 11 b) hx hb hK hI 11 0 rfl rfl (by omega) (by first | decide | omega) (by rw [(hkp.2 11 (by omega)).1]) dX4_again_92 ?_
          refine lv_aload_n hx hb dX4_again_93 rfl (lv_at hl 2 rfl) ?_
          refine bn_get (ci := 3) (v := .ref (ad 12)) (C := RX4) (T := TX4) (N := 31) hx hb hts hinX4 hown hK hI 0 rfl rfl 12 (by decide) lk_45 rfl (rfl) dX4_again_94 ?_
          refine lv_iload_n hx hb dX4_again_97 rfl (lv_at hl 3 rfl) ?_
          refine bn_iald (n := 25) (v := S.2.2.1 12 b) hx hb hK hI 12 0 rfl rfl (by omega) (by first | decide | omega) (by rw [(hkp.2 12 (by omega)).1]) dX4_again_98 ?_
          refine lv_ior hx hb dX4_again_99 ?_
          refine lv_aload_n hx hb dX4_again_100 rfl (lv_at hl 2 rfl) ?_
          refine bn_get (ci := 3) (v := .ref (ad 13)) (C := RX4) (T := TX4) (N := 31) hx hb hts hinX4 hown hK hI 0 rfl rfl 13 (by decide) lk_48 rfl (rfl) dX4_again_101 ?_
          refine lv_iload_n hx hb dX4_again_104 rfl (lv_at hl 3 rfl) ?_
          refine bn_iald (n := 25) (v := S.2.2.1 13 b) hx hb hK hI 13 0 rfl rfl (by omega) (by first | decide | omega) (by rw [(hkp.2 13 (by omega)).1]) dX4_again_105 ?_
          refine lv_iconst (v := -1) hx hb dX4_again_106 (by decide) ?_
          refine lv_ixor hx hb dX4_again_107 ?_
          refine lv_iand hx hb dX4_again_108 ?_
          refine lv_iload_n hx hb dX4_again_109 rfl (lv_at hl 0 rfl) ?_
          refine lv_ishr hx hb dX4_again_110 ?_
          refine lv_iconst (v := nI 1) hx hb dX4_again_111 (by decide) ?_
          refine lv_iand hx hb dX4_again_112 ?_
          refine lv_iconst (v := nI 1) hx hb dX4_again_113 (by decide) ?_
          refine lv_icmp_ne (tgt := 126) hx hb dX4_again_114 (by decide) (fun c_14 => ?_) (fun c_14 => ?_)
          · have q_1 : ¬ bh_agC S b q = nI 1 := c_14
            refine lv_iinc (v := nI (q + 1)) (lv' := [(3, .int (nI (q + 1))), (2, .int (nI ((bh_agL S b q).1))), (0, .ref h), (1, .int (nI b))]) hx hb dX4_again_126 hl (k := 0) rfl (nI_1 _) (by decide) rfl (fun ls hl => ?_)
            refine lv_goto (tgt := 81) hx hb dX4_again_129 (by decide) ?_
            exact ih_12 (q + 1) _ _ _ ⟨by omega, (by rw [show bh_agL S b (q + 1) = _ from if_neg q_1]; exact hI), (by rw [show bh_agL S b (q + 1) = _ from if_neg q_1]; exact (lv_sub hl [0, 1, 2, 3] rfl))⟩ (by show 8 - (q + 1) < 8 - q; omega)
          · have q_1 : bh_agC S b q = nI 1 := c_14
            refine lv_iload_n hx hb dX4_again_117 rfl (lv_at hl 1 rfl) ?_
            refine lv_aload_n hx hb dX4_again_118 rfl (lv_at hl 2 rfl) ?_
            refine lv_iload_n hx hb dX4_again_119 rfl (lv_at hl 3 rfl) ?_
            refine lv_iload_n hx hb dX4_again_120 rfl (lv_at hl 0 rfl) ?_
            refine bn_mui (bn_muV (As := [.int (nI b), .int (nI q)]) (rest := [.int (nI ((bh_agL S b q).1))]) ⟨hx, hb, hml, hown, hts⟩ (cm_sendVotes l D c h ad _ (bh_agL S b q).2 b q (by omega) (by omega) hle (by rw [hkp.1.1]; exact hn)) (cwV 2 hts gX4_again_X4_sendVotes rfl rfl rfl (by decide +kernel) ⟨Nat.le_of_ble_eq_true rfl, Nat.le_of_ble_eq_true rfl⟩) hK hI 0 3 rfl rfl rfl rfl hl.1 (Nat.le_of_ble_eq_true rfl) dX4_again_121 ⟨Nat.le_of_ble_eq_true rfl, Nat.le_of_ble_eq_true rfl⟩) hI hA (fun r_15 u_15 H locs eu_15 hI => ?_)
            obtain ⟨er_15, eu_15⟩ := eu_15
            subst er_15
            subst eu_15
            refine bn_iadd hx hb dX4_again_124 ?_
            refine lv_istore_n (lv' := [(2, .int (nI (((bh_agL S b q).1) + ((bh_sv (bh_agL S b q).2 b q).1)))), (3, .int (nI q)), (0, .ref h), (1, .int (nI b))]) hx hb dX4_again_125 rfl hl (by decide) rfl (fun ls hl => ?_)
            refine lv_iinc (v := nI (q + 1)) (lv' := [(3, .int (nI (q + 1))), (2, .int (nI (((bh_agL S b q).1) + ((bh_sv (bh_agL S b q).2 b q).1)))), (0, .ref h), (1, .int (nI b))]) hx hb dX4_again_126 hl (k := 1) rfl (nI_1 _) (by decide) rfl (fun ls hl => ?_)
            refine lv_goto (tgt := 81) hx hb dX4_again_129 (by decide) ?_
            exact ih_12 (q + 1) _ _ _ ⟨by omega, (by rw [show bh_agL S b (q + 1) = _ from if_pos q_1]; exact hI), (by rw [show bh_agL S b (q + 1) = _ from if_pos q_1]; exact (lv_sub hl [0, 1, 2, 3] rfl))⟩ (by show 8 - (q + 1) < 8 - q; omega)
    · first | exact absurd c_4 (by decide) | exact absurd (by decide) c_4
set_option maxHeartbeats 4000000 in
set_option maxRecDepth 100000 in
theorem cm_ballot (l : Launch) (D : va_G) (c : bh_C) (h : Nat) (ad : Nat → Nat) (sz : Nat) (S : mS) (x y z : Int32) (ha : S.1 28 ≤ 400) (hn : S.1 0 ≤ 7) (hk24 : S.1 18 ≤ 24) : Met l yX4_ballot wsX4_ballot ({ frames := 1, cells := 0, slots := 0, locals := 27 }) (va_Pc [.ref h, .int (x), .int (y), .int (z)] (bh_prm D c (bh_mw h ad c (S)) sz)) (va_Qi (fun (r : Int32) (u : mS) => r = (bh_mbal S x y z).1 ∧ u = (bh_mbal S x y z).2) (fun u t => bh_post D c (bh_mw h ad c u) (va_A (bh_mw h ad c (S)) sz) t) (va_A (bh_mw h ad c (S)) sz)) 0 0 (va_A (bh_mw h ad c (S)) sz) := by
  refine Met.ofW (cc := cX4_ballot) (maxL := 5) (ret := (some .int)) (by decide) rfl ?_
  intro p e s m args below meth c0 s₁ B hml hv
  obtain ⟨rfl, hsz, hP, hK, hD0⟩ := hv
  have hx := B.exec
  have hb := B.bytes
  have hr := B.returns
  have hts := atoms_spec (ws := wsX4_ballot) B.pre
  have hown : s.vm.findClass RX4 = some m.cls := findClass_of_methodNamed B.named
  have hlocks := B.notSynchronized
  have hinX4 : ∀ w ∈ wsX40, w ∈ wsX4_ballot := fun _ h => List.mem_cons_of_mem _ (List.mem_append_right _ h)
  have lk_27 : (Cond.fieldLink RX4 27 "BallotHouseModel" "members" "[I").before _ s = true := hts _ (by decide +kernel)
  have lk_30 : (Cond.fieldLink RX4 30 "BallotHouseModel" "reads" "[I").before _ s = true := hts _ (by decide +kernel)
  have lk_33 : (Cond.fieldLink RX4 33 "BallotHouseModel" "writes" "[I").before _ s = true := hts _ (by decide +kernel)
  have lk_36 : (Cond.fieldLink RX4 36 "BallotHouseModel" "behind" "[I").before _ s = true := hts _ (by decide +kernel)
  have lk_90 : (Cond.fieldLink RX4 90 "BallotHouseModel" "voters" "I").before _ s = true := hts _ (by decide +kernel)
  have lk_94 : (Cond.fieldLink RX4 94 "BallotHouseModel" "ballots" "I").before _ s = true := hts _ (by decide +kernel)
  have lk_111 : (Cond.fieldLink RX4 111 "BallotHouseModel" "complete" "I").before _ s = true := hts _ (by decide +kernel)
  subst hsz
  have hI := bh_start hP hD0
  generalize hAe : va_A (bh_mw h ad c (S)) s.heap.size = A at hI ⊢
  have hA : ∀ q : Nat, s.heap.size ≤ q → A q := fun q h => by rw [← hAe]; exact Or.inr h
  clear hP hD0 hAe
  have hl := lv_entry ([.ref h, .int (x), .int (y), .int (z)]) (n := 5) (Nat.le_of_ble_eq_true rfl)
  rw [lg_entry_eq]
  generalize (lg_sl ([.ref h, .int (x), .int (y), .int (z)]) ++ List.replicate (5 - (lg_sl ([.ref h, .int (x), .int (y), .int (z)])).length) Slot.unset).toArray = ls at hl ⊢
  have hl : lv_has ls 5 [(0, .ref h), (1, .int (x)), (2, .int (y)), (3, .int (z))] := hl
  refine lv_iload_n hx hb dX4_ballot_0 rfl (lv_at hl 1 rfl) ?_
  refine lv_if_lt (tgt := 14) hx hb dX4_ballot_1 (by decide) (fun c_1 => ?_) (fun c_1 => ?_)
  · refine lv_iconst (v := nI 0) hx hb dX4_ballot_14 (by decide) ?_
    refine lv_goto (tgt := 22) hx hb dX4_ballot_15 (by decide) ?_
    refine lv_istore (lv' := [(4, .int (nI 0)), (0, .ref h), (1, .int (x)), (2, .int (y)), (3, .int (z))]) hx hb dX4_ballot_22 hl (by decide) rfl (fun ls hl => ?_)
    refine lv_iload hx hb dX4_ballot_24 (lv_at hl 0 rfl) ?_
    refine lv_if_eq (tgt := 68) hx hb dX4_ballot_26 (by decide) (fun c_2 => ?_) (fun c_2 => ?_)
    · refine lv_iconst (v := -1) hx hb dX4_ballot_68 (by decide) ?_
      exact bn_reti hx hb hr hlocks hK (S) hI (by unfold bh_mbal; rw [if_neg (fun w => by obtain ⟨w1, w2, w3, w4, w5, w6, w7, w8, w9⟩ := w; exact w1 c_1)]; exact ⟨rfl, rfl⟩) dX4_ballot_69
    · first | exact absurd c_2 (by decide) | exact absurd (by decide) c_2
  · refine lv_iload_n hx hb dX4_ballot_4 rfl (lv_at hl 1 rfl) ?_
    refine lv_iconst (v := nI 1) hx hb dX4_ballot_5 (by decide) ?_
    refine lv_aload_n hx hb dX4_ballot_6 rfl (lv_at hl 0 rfl) ?_
    refine bn_get (ci := 3) (v := .int (nI (S.1 0))) (C := RX4) (T := TX4) (N := 31) hx hb hts hinX4 hown hK hI 0 rfl rfl 0 (by decide) lk_90 rfl (rfl) dX4_ballot_7 ?_
    refine lv_ishl hx hb dX4_ballot_10 ?_
    refine lv_icmp_lt (tgt := 18) hx hb dX4_ballot_11 (by decide) (fun c_3 => ?_) (fun c_3 => ?_)
    · refine lv_iload_n hx hb dX4_ballot_18 rfl (lv_at hl 1 rfl) ?_
      refine vp_callSi (bn_roS (As := [.int (x)]) (rest := []) ⟨hx, hb, hml, hown, hts⟩ (cm_many l (x)) (va_cwS 1 hts gX4_ballot_X4_many rfl rfl rfl (by decide +kernel) ⟨Nat.le_of_ble_eq_true rfl, Nat.le_of_ble_eq_true rfl⟩) rfl hl.1 (Nat.le_of_ble_eq_true rfl) dX4_ballot_19 ⟨Nat.le_of_ble_eq_true rfl, Nat.le_of_ble_eq_true rfl⟩) (fun r_4 er_4 => ?_)
      subst er_4
      refine lv_istore (lv' := [(4, .int (bh_many (x))), (0, .ref h), (1, .int (x)), (2, .int (y)), (3, .int (z))]) hx hb dX4_ballot_22 hl (by decide) rfl (fun ls hl => ?_)
      refine lv_iload hx hb dX4_ballot_24 (lv_at hl 0 rfl) ?_
      refine lv_if_eq (tgt := 68) hx hb dX4_ballot_26 (by decide) (fun c_5 => ?_) (fun c_5 => ?_)
      · refine lv_iconst (v := -1) hx hb dX4_ballot_68 (by decide) ?_
        exact bn_reti hx hb hr hlocks hK (S) hI (by unfold bh_mbal; rw [if_neg (fun w => by obtain ⟨w1, w2, w3, w4, w5, w6, w7, w8, w9⟩ := w; exact w3 c_5)]; exact ⟨rfl, rfl⟩) dX4_ballot_69
      · refine lv_iload_n hx hb dX4_ballot_29 rfl (lv_at hl 3 rfl) ?_
        refine lv_iconst (v := nI 1) hx hb dX4_ballot_30 (by decide) ?_
        refine lv_icmp_lt (tgt := 68) hx hb dX4_ballot_31 (by decide) (fun c_6 => ?_) (fun c_6 => ?_)
        · refine lv_iconst (v := -1) hx hb dX4_ballot_68 (by decide) ?_
          exact bn_reti hx hb hr hlocks hK (S) hI (by unfold bh_mbal; rw [if_neg (fun w => by obtain ⟨w1, w2, w3, w4, w5, w6, w7, w8, w9⟩ := w; exact w4 c_6)]; exact ⟨rfl, rfl⟩) dX4_ballot_69
        · refine lv_iload_n hx hb dX4_ballot_34 rfl (lv_at hl 3 rfl) ?_
          refine lv_iload hx hb dX4_ballot_35 (lv_at hl 0 rfl) ?_
          refine lv_icmp_gt (tgt := 68) hx hb dX4_ballot_37 (by decide) (fun c_7 => ?_) (fun c_7 => ?_)
          · refine lv_iconst (v := -1) hx hb dX4_ballot_68 (by decide) ?_
            exact bn_reti hx hb hr hlocks hK (S) hI (by unfold bh_mbal; rw [if_neg (fun w => by obtain ⟨w1, w2, w3, w4, w5, w6, w7, w8, w9⟩ := w; exact w5 c_7)]; exact ⟨rfl, rfl⟩) dX4_ballot_69
          · refine lv_iload_n hx hb dX4_ballot_40 rfl (lv_at hl 4 rfl) ?_
            refine lv_iconst (v := nI 1) hx hb dX4_ballot_41 (by decide) ?_
            refine lv_icmp_lt (tgt := 68) hx hb dX4_ballot_42 (by decide) (fun c_8 => ?_) (fun c_8 => ?_)
            · refine lv_iconst (v := -1) hx hb dX4_ballot_68 (by decide) ?_
              exact bn_reti hx hb hr hlocks hK (S) hI (by unfold bh_mbal; rw [if_neg (fun w => by obtain ⟨w1, w2, w3, w4, w5, w6, w7, w8, w9⟩ := w; exact w6 c_8)]; exact ⟨rfl, rfl⟩) dX4_ballot_69
            · refine lv_iload_n hx hb dX4_ballot_45 rfl (lv_at hl 4 rfl) ?_
              refine lv_iload hx hb dX4_ballot_46 (lv_at hl 0 rfl) ?_
              refine lv_icmp_gt (tgt := 68) hx hb dX4_ballot_48 (by decide) (fun c_9 => ?_) (fun c_9 => ?_)
              · refine lv_iconst (v := -1) hx hb dX4_ballot_68 (by decide) ?_
                exact bn_reti hx hb hr hlocks hK (S) hI (by unfold bh_mbal; rw [if_neg (fun w => by obtain ⟨w1, w2, w3, w4, w5, w6, w7, w8, w9⟩ := w; exact w7 c_9)]; exact ⟨rfl, rfl⟩) dX4_ballot_69
              · refine lv_iload_n hx hb dX4_ballot_51 rfl (lv_at hl 3 rfl) ?_
                refine lv_iload_n hx hb dX4_ballot_52 rfl (lv_at hl 4 rfl) ?_
                refine lv_iadd hx hb dX4_ballot_53 ?_
                refine lv_iload hx hb dX4_ballot_54 (lv_at hl 0 rfl) ?_
                refine lv_icmp_le (tgt := 68) hx hb dX4_ballot_56 (by decide) (fun c_10 => ?_) (fun c_10 => ?_)
                · refine lv_iconst (v := -1) hx hb dX4_ballot_68 (by decide) ?_
                  exact bn_reti hx hb hr hlocks hK (S) hI (by unfold bh_mbal; rw [if_neg (fun w => by obtain ⟨w1, w2, w3, w4, w5, w6, w7, w8, w9⟩ := w; exact w8 c_10)]; exact ⟨rfl, rfl⟩) dX4_ballot_69
                · refine lv_aload_n hx hb dX4_ballot_59 rfl (lv_at hl 1 rfl) ?_
                  refine bn_get (ci := 3) (v := .int (nI (S.1 18))) (C := RX4) (T := TX4) (N := 31) hx hb hts hinX4 hown hK hI 0 rfl rfl 18 (by decide) lk_94 rfl (rfl) dX4_ballot_60 ?_
                  refine lv_bipush (v := nI 24) hx hb dX4_ballot_63 (by decide) ?_
                  refine bn_cmp_ne (tgt := 70) hx hb (by omega) (by omega) dX4_ballot_65 (by decide) (fun c_11 => ?_) (fun c_11 => ?_)
                  · refine lv_aload_n hx hb dX4_ballot_70 rfl (lv_at hl 1 rfl) ?_
                    refine lv_dup hx hb dX4_ballot_71 rfl ?_
                    refine bn_get (ci := 3) (v := .int (nI (S.1 18))) (C := RX4) (T := TX4) (N := 31) hx hb hts hinX4 hown hK hI 0 rfl rfl 18 (by decide) lk_94 rfl (rfl) dX4_ballot_72 ?_
                    refine lv_iconst (v := nI 1) hx hb dX4_ballot_75 (by decide) ?_
                    refine bn_iadd hx hb dX4_ballot_76 ?_
                    refine bn_put (ci := 3) (v := .int (nI ((S.1 18) + 1))) (ty := .int) (C := RX4) (T := TX4) (N := 31) (ws' := bh_mw h ad c (bh_n S 18 ((S.1 18) + 1))) hx hb hts hinX4 tyX4 tyX4_ok nmX4 hown hK hI 0 rfl rfl 18 (by decide) lk_94 rfl rfl rfl rfl rfl (Nat.le_of_ble_eq_true rfl) dX4_ballot_77 rfl (fun H locs hI => ?_)
                    refine lv_aload_n hx hb dX4_ballot_80 rfl (lv_at hl 1 rfl) ?_
                    refine bn_get (ci := 3) (v := .ref (ad 6)) (C := RX4) (T := TX4) (N := 31) hx hb hts hinX4 hown hK hI 0 rfl rfl 6 (by decide) lk_27 rfl (rfl) dX4_ballot_81 ?_
                    refine lv_aload_n hx hb dX4_ballot_84 rfl (lv_at hl 1 rfl) ?_
                    refine bn_get (ci := 3) (v := .int (nI ((S.1 18) + 1))) (C := RX4) (T := TX4) (N := 31) hx hb hts hinX4 hown hK hI 0 rfl rfl 18 (by decide) lk_94 rfl (rfl) dX4_ballot_85 ?_
                    refine lv_iload_n hx hb dX4_ballot_88 rfl (lv_at hl 2 rfl) ?_
                    refine bn_iast (n := 25) (ws' := bh_mw h ad c (bh_r (bh_n S 18 ((S.1 18) + 1)) 6 ((S.1 18) + 1) x)) hx hb hK hI 6 0 rfl rfl (by omega) (by first | decide | omega) dX4_ballot_89 rfl (fun H locs hI => ?_)
                    refine lv_aload_n hx hb dX4_ballot_90 rfl (lv_at hl 1 rfl) ?_
                    refine bn_get (ci := 3) (v := .ref (ad 7)) (C := RX4) (T := TX4) (N := 31) hx hb hts hinX4 hown hK hI 0 rfl rfl 7 (by decide) lk_30 rfl (rfl) dX4_ballot_91 ?_
                    refine lv_aload_n hx hb dX4_ballot_94 rfl (lv_at hl 1 rfl) ?_
                    refine bn_get (ci := 3) (v := .int (nI ((S.1 18) + 1))) (C := RX4) (T := TX4) (N := 31) hx hb hts hinX4 hown hK hI 0 rfl rfl 18 (by decide) lk_94 rfl (rfl) dX4_ballot_95 ?_
                    refine lv_iload_n hx hb dX4_ballot_98 rfl (lv_at hl 3 rfl) ?_
                    refine bn_iast (n := 25) (ws' := bh_mw h ad c (bh_r (bh_r (bh_n S 18 ((S.1 18) + 1)) 6 ((S.1 18) + 1) x) 7 ((S.1 18) + 1) y)) hx hb hK hI 7 0 rfl rfl (by omega) (by first | decide | omega) dX4_ballot_99 rfl (fun H locs hI => ?_)
                    refine lv_aload_n hx hb dX4_ballot_100 rfl (lv_at hl 1 rfl) ?_
                    refine bn_get (ci := 3) (v := .ref (ad 8)) (C := RX4) (T := TX4) (N := 31) hx hb hts hinX4 hown hK hI 0 rfl rfl 8 (by decide) lk_33 rfl (rfl) dX4_ballot_101 ?_
                    refine lv_aload_n hx hb dX4_ballot_104 rfl (lv_at hl 1 rfl) ?_
                    refine bn_get (ci := 3) (v := .int (nI ((S.1 18) + 1))) (C := RX4) (T := TX4) (N := 31) hx hb hts hinX4 hown hK hI 0 rfl rfl 18 (by decide) lk_94 rfl (rfl) dX4_ballot_105 ?_
                    refine lv_iload_n hx hb dX4_ballot_108 rfl (lv_at hl 4 rfl) ?_
                    refine bn_iast (n := 25) (ws' := bh_mw h ad c (bh_r (bh_r (bh_r (bh_n S 18 ((S.1 18) + 1)) 6 ((S.1 18) + 1) x) 7 ((S.1 18) + 1) y) 8 ((S.1 18) + 1) z)) hx hb hK hI 8 0 rfl rfl (by omega) (by first | decide | omega) dX4_ballot_109 rfl (fun H locs hI => ?_)
                    refine lv_aload_n hx hb dX4_ballot_110 rfl (lv_at hl 1 rfl) ?_
                    refine bn_get (ci := 3) (v := .ref (ad 9)) (C := RX4) (T := TX4) (N := 31) hx hb hts hinX4 hown hK hI 0 rfl rfl 9 (by decide) lk_36 rfl (rfl) dX4_ballot_111 ?_
                    refine lv_aload_n hx hb dX4_ballot_114 rfl (lv_at hl 1 rfl) ?_
                    refine bn_get (ci := 3) (v := .int (nI ((S.1 18) + 1))) (C := RX4) (T := TX4) (N := 31) hx hb hts hinX4 hown hK hI 0 rfl rfl 18 (by decide) lk_94 rfl (rfl) dX4_ballot_115 ?_
                    refine lv_aload_n hx hb dX4_ballot_118 rfl (lv_at hl 1 rfl) ?_
                    refine bn_get (ci := 3) (v := .int (S.2.1 19)) (C := RX4) (T := TX4) (N := 31) hx hb hts hinX4 hown hK hI 0 rfl rfl 19 (by decide) lk_111 rfl (rfl) dX4_ballot_119 ?_
                    refine bn_iast (n := 25) (ws' := bh_mw h ad c (bh_r (bh_r (bh_r (bh_r (bh_n S 18 ((S.1 18) + 1)) 6 ((S.1 18) + 1) x) 7 ((S.1 18) + 1) y) 8 ((S.1 18) + 1) z) 9 ((S.1 18) + 1) (S.2.1 19))) hx hb hK hI 9 0 rfl rfl (by omega) (by first | decide | omega) dX4_ballot_122 rfl (fun H locs hI => ?_)
                    refine lv_aload_n hx hb dX4_ballot_123 rfl (lv_at hl 1 rfl) ?_
                    refine lv_iconst (v := nI 1) hx hb dX4_ballot_124 (by decide) ?_
                    refine lv_aload_n hx hb dX4_ballot_125 rfl (lv_at hl 1 rfl) ?_
                    refine bn_get (ci := 3) (v := .int (nI ((S.1 18) + 1))) (C := RX4) (T := TX4) (N := 31) hx hb hts hinX4 hown hK hI 0 rfl rfl 18 (by decide) lk_94 rfl (rfl) dX4_ballot_126 ?_
                    refine lv_iconst (v := -1) hx hb dX4_ballot_129 (by decide) ?_
                    refine lv_iconst (v := -1) hx hb dX4_ballot_130 (by decide) ?_
                    refine lv_lconst (v := 0) hx hb dX4_ballot_131 (by decide) ?_
                    refine bn_muv (bn_muV (As := [.int (nI 1), .int (nI ((S.1 18) + 1)), .int (-1), .int (-1), .long (0)]) (rest := []) ⟨hx, hb, hml, hown, hts⟩ (cm_put l D c h ad _ (bh_r (bh_r (bh_r (bh_r (bh_n S 18 ((S.1 18) + 1)) 6 ((S.1 18) + 1) x) 7 ((S.1 18) + 1) y) 8 ((S.1 18) + 1) z) 9 ((S.1 18) + 1) (S.2.1 19)) 1 (nI (S.1 18 + 1)) (-1) (-1) (0) (ha) (by omega) (by omega)) (cwV 5 hts gX4_ballot_X4_put rfl rfl rfl (by decide +kernel) ⟨Nat.le_of_ble_eq_true rfl, Nat.le_of_ble_eq_true rfl⟩) hK hI 0 3 rfl rfl rfl rfl hl.1 (Nat.le_of_ble_eq_true rfl) dX4_ballot_132 ⟨Nat.le_of_ble_eq_true rfl, Nat.le_of_ble_eq_true rfl⟩) hI hA (fun u_12 H locs eu_12 hI => ?_)
                    subst eu_12
                    refine lv_aload_n hx hb dX4_ballot_135 rfl (lv_at hl 1 rfl) ?_
                    refine bn_get (ci := 3) (v := .int (nI (S.1 18 + 1))) (C := RX4) (T := TX4) (N := 31) hx hb hts hinX4 hown hK hI 0 rfl rfl 18 (by decide) lk_94 rfl (by show some (Value.int (nI ((bh_put (bh_blA S x y z) (nI 1) (nI (S.1 18 + 1)) (-1) (-1) 0 bh_z0 bh_z1).1 18))) = _; rw [(bh_kp_put _ _ _ _ _ _ _ _).1.2.1]; rfl) dX4_ballot_136 ?_
                    exact bn_reti hx hb hr hlocks hK (bh_put (bh_r (bh_r (bh_r (bh_r (bh_n S 18 ((S.1 18) + 1)) 6 ((S.1 18) + 1) x) 7 ((S.1 18) + 1) y) 8 ((S.1 18) + 1) z) 9 ((S.1 18) + 1) (S.2.1 19)) (nI 1) (nI (S.1 18 + 1)) (-1) (-1) 0 bh_z0 bh_z1) hI (by unfold bh_mbal; rw [if_pos ⟨c_1, c_3, c_5, c_6, c_7, c_8, c_9, c_10, c_11⟩]; exact ⟨rfl, rfl⟩) dX4_ballot_139
                  · refine lv_iconst (v := -1) hx hb dX4_ballot_68 (by decide) ?_
                    exact bn_reti hx hb hr hlocks hK (S) hI (by unfold bh_mbal; rw [if_neg (fun w => by obtain ⟨w1, w2, w3, w4, w5, w6, w7, w8, w9⟩ := w; exact w9 c_11)]; exact ⟨rfl, rfl⟩) dX4_ballot_69
    · refine lv_iconst (v := nI 0) hx hb dX4_ballot_14 (by decide) ?_
      refine lv_goto (tgt := 22) hx hb dX4_ballot_15 (by decide) ?_
      refine lv_istore (lv' := [(4, .int (nI 0)), (0, .ref h), (1, .int (x)), (2, .int (y)), (3, .int (z))]) hx hb dX4_ballot_22 hl (by decide) rfl (fun ls hl => ?_)
      refine lv_iload hx hb dX4_ballot_24 (lv_at hl 0 rfl) ?_
      refine lv_if_eq (tgt := 68) hx hb dX4_ballot_26 (by decide) (fun c_13 => ?_) (fun c_13 => ?_)
      · refine lv_iconst (v := -1) hx hb dX4_ballot_68 (by decide) ?_
        exact bn_reti hx hb hr hlocks hK (S) hI (by unfold bh_mbal; rw [if_neg (fun w => by obtain ⟨w1, w2, w3, w4, w5, w6, w7, w8, w9⟩ := w; exact c_3 w2)]; exact ⟨rfl, rfl⟩) dX4_ballot_69
      · first | exact absurd c_13 (by decide) | exact absurd (by decide) c_13
set_option maxHeartbeats 4000000 in
set_option maxRecDepth 100000 in
theorem cm_settleN (l : Launch) (D : va_G) (c : bh_C) (h : Nat) (ad : Nat → Nat) (sz : Nat) (S : mS) (x : Int32) (hx0 : x < 0) : Met l yX4_settle wsX4_settle ({ frames := 0, cells := 0, slots := 0, locals := 0 }) (va_Pc [.ref h, .int (x)] (bh_prm D c (bh_mw h ad c (S)) sz)) (va_Qi (fun (r : Int32) (u : mS) => r = -1 ∧ u = S) (fun u t => bh_post D c (bh_mw h ad c u) (va_A (bh_mw h ad c (S)) sz) t) (va_A (bh_mw h ad c (S)) sz)) 0 0 (va_A (bh_mw h ad c (S)) sz) := by
  refine Met.ofW (cc := cX4_settle) (maxL := 5) (ret := (some .int)) (by decide) rfl ?_
  intro p e s m args below meth c0 s₁ B hml hv
  obtain ⟨rfl, hsz, hP, hK, hD0⟩ := hv
  have hx := B.exec
  have hb := B.bytes
  have hr := B.returns
  have hts := atoms_spec (ws := wsX4_settle) B.pre
  have hown : s.vm.findClass RX4 = some m.cls := findClass_of_methodNamed B.named
  have hlocks := B.notSynchronized
  have hinX4 : ∀ w ∈ wsX40, w ∈ wsX4_settle := fun _ h => List.mem_cons_of_mem _ (List.mem_append_right _ h)
  subst hsz
  have hI := bh_start hP hD0
  generalize hAe : va_A (bh_mw h ad c (S)) s.heap.size = A at hI ⊢
  have hA : ∀ q : Nat, s.heap.size ≤ q → A q := fun q h => by rw [← hAe]; exact Or.inr h
  clear hP hD0 hAe
  have hl := lv_entry ([.ref h, .int (x)]) (n := 5) (Nat.le_of_ble_eq_true rfl)
  rw [lg_entry_eq]
  generalize (lg_sl ([.ref h, .int (x)]) ++ List.replicate (5 - (lg_sl ([.ref h, .int (x)])).length) Slot.unset).toArray = ls at hl ⊢
  have hl : lv_has ls 5 [(0, .ref h), (1, .int (x))] := hl
  refine lv_iload_n hx hb dX4_settle_0 rfl (lv_at hl 1 rfl) ?_
  refine lv_if_ge (tgt := 6) hx hb dX4_settle_1 (by decide) (fun c_1 => ?_) (fun c_1 => ?_)
  · exact absurd hx0 (Int32.not_lt.mpr c_1)
  · refine lv_iconst (v := -1) hx hb dX4_settle_4 (by decide) ?_
    exact bn_reti hx hb hr hlocks hK (S) hI (⟨rfl, rfl⟩) dX4_settle_5
set_option maxHeartbeats 4000000 in
set_option maxRecDepth 100000 in
theorem cm_settle (l : Launch) (D : va_G) (c : bh_C) (h : Nat) (ad : Nat → Nat) (sz : Nat) (S : mS) (n : Nat) (hn31 : n < 2 ^ 31) (P : mS → Prop) (hp0 : P S) (hpk : ∀ T, P T → T.1 28 ≤ 400 ∧ T.1 0 ≤ 7 ∧ ∀ k, k < T.1 28 → bh_lok T k) (hps : ∀ T k, P T → k < T.1 28 → bh_cb T k = true → P (bh_dlv T k)) : Met l yX4_settle wsX4_settle ({ frames := 5, cells := 0, slots := 0, locals := 124 }) (va_Pc [.ref h, .int (nI n)] (bh_prm D c (bh_mw h ad c (S)) sz)) (va_Qi (fun (r : Int32) (u : mS) => r = nI (bh_stl S n).1 ∧ u = (bh_stl S n).2) (fun u t => bh_post D c (bh_mw h ad c u) (va_A (bh_mw h ad c (S)) sz) t) (va_A (bh_mw h ad c (S)) sz)) 0 0 (va_A (bh_mw h ad c (S)) sz) := by
  refine Met.ofW (cc := cX4_settle) (maxL := 5) (ret := (some .int)) (by decide) rfl ?_
  intro p e s m args below meth c0 s₁ B hml hv
  obtain ⟨rfl, hsz, hP, hK, hD0⟩ := hv
  have hx := B.exec
  have hb := B.bytes
  have hr := B.returns
  have hts := atoms_spec (ws := wsX4_settle) B.pre
  have hown : s.vm.findClass RX4 = some m.cls := findClass_of_methodNamed B.named
  have hlocks := B.notSynchronized
  have hinX4 : ∀ w ∈ wsX40, w ∈ wsX4_settle := fun _ h => List.mem_cons_of_mem _ (List.mem_append_right _ h)
  have lk_97 : (Cond.fieldLink RX4 97 "BallotHouseModel" "air" "I").before _ s = true := hts _ (by decide +kernel)
  subst hsz
  have hI := bh_start hP hD0
  generalize hAe : va_A (bh_mw h ad c (S)) s.heap.size = A at hI ⊢
  have hA : ∀ q : Nat, s.heap.size ≤ q → A q := fun q h => by rw [← hAe]; exact Or.inr h
  clear hP hD0 hAe
  have hl := lv_entry ([.ref h, .int (nI n)]) (n := 5) (Nat.le_of_ble_eq_true rfl)
  rw [lg_entry_eq]
  generalize (lg_sl ([.ref h, .int (nI n)]) ++ List.replicate (5 - (lg_sl ([.ref h, .int (nI n)])).length) Slot.unset).toArray = ls at hl ⊢
  have hl : lv_has ls 5 [(0, .ref h), (1, .int (nI n))] := hl
  refine lv_iload_n hx hb dX4_settle_0 rfl (lv_at hl 1 rfl) ?_
  refine lv_if_ge (tgt := 6) hx hb dX4_settle_1 (by decide) (fun c_1 => ?_) (fun c_1 => ?_)
  · refine lv_iconst (v := nI 0) hx hb dX4_settle_6 (by decide) ?_
    refine lv_istore_n (lv' := [(2, .int (nI 0)), (0, .ref h), (1, .int (nI n))]) hx hb dX4_settle_7 rfl hl (by decide) rfl (fun ls hl => ?_)
    refine lv_iconst (v := nI 1) hx hb dX4_settle_8 (by decide) ?_
    refine lv_istore_n (lv' := [(3, .int (nI 1)), (2, .int (nI 0)), (0, .ref h), (1, .int (nI n))]) hx hb dX4_settle_9 rfl hl (by decide) rfl (fun ls hl => ?_)
    refine bh_loop (σ := mS × Nat × Nat) (fun x H locs ls => (fun (T : mS) (t : Nat) (m2 : Nat) => P T ∧ t + m2 = n ∧ bh_stl S n = (t + (bh_stl T m2).1, (bh_stl T m2).2) ∧ bh_I D (bh_mw h ad c (T)) A s.heap H locs ∧ lv_has ls 5 [(3, .int (nI 1)), (2, .int (nI t)), (0, .ref h), (1, .int (nI n))]) x.1 x.2.1 x.2.2) (fun x => (fun (T : mS) (t : Nat) (m2 : Nat) => m2) x.1 x.2.1 x.2.2) (fun x H locs ls hx_2 ih_2 => ?_) ((S, 0, n)) _ _ _ ⟨hp0, Nat.zero_add n, by show _ = (0 + _, _); rw [Nat.zero_add], hI, lv_sub hl [0, 1, 2, 3] rfl⟩
    clear hl hI
    obtain ⟨T, t, m2⟩ := x
    dsimp only at hx_2
    obtain ⟨hpT, htm, hst, hI, hl⟩ := hx_2
    obtain ⟨hT28, hT0, hTl⟩ := hpk T hpT
    refine lv_iload_n hx hb dX4_settle_10 rfl (lv_at hl 0 rfl) ?_
    refine lv_if_eq (tgt := 63) hx hb dX4_settle_11 (by decide) (fun c_3 => ?_) (fun c_3 => ?_)
    · first | exact absurd c_3 (by decide) | exact absurd (by decide) c_3
    · refine lv_iload_n hx hb dX4_settle_14 rfl (lv_at hl 1 rfl) ?_
      refine lv_iload_n hx hb dX4_settle_15 rfl (lv_at hl 3 rfl) ?_
      refine bn_cmp_ge (tgt := 63) hx hb (by omega) (by omega) dX4_settle_16 (by decide) (fun c_4 => ?_) (fun c_4 => ?_)
      · refine lv_iload_n hx hb dX4_settle_63 rfl (lv_at hl 1 rfl) ?_
        exact bn_reti hx hb hr hlocks hK (T) hI (⟨by rw [hst, show m2 = 0 by omega]; rfl, by rw [hst, show m2 = 0 by omega]; rfl⟩) dX4_settle_64
      · refine lv_iconst (v := nI 0) hx hb dX4_settle_19 (by decide) ?_
        refine lv_istore (lv' := [(4, .int (nI 0)), (3, .int (nI 1)), (2, .int (nI t)), (0, .ref h), (1, .int (nI n))]) hx hb dX4_settle_20 hl (by decide) rfl (fun ls hl => ?_)
        refine bh_loop (σ := Nat) (fun (j : Nat) H locs ls => j ≤ T.1 28 ∧ bh_ff T (T.1 28 - j) j = bh_fst T ∧ bh_I D (bh_mw h ad c (T)) A s.heap H locs ∧ lv_has ls 5 [(4, .int (nI j)), (3, .int (nI 1)), (2, .int (nI t)), (0, .ref h), (1, .int (nI n))]) (fun (j : Nat) => T.1 28 - j) (fun j H locs ls hx_5 ih_5 => ?_) 0 _ _ _ ⟨Nat.zero_le _, rfl, hI, lv_sub hl [0, 1, 2, 3, 4] rfl⟩
        clear hl hI
        obtain ⟨hj, hff, hI, hl⟩ := hx_5
        refine lv_iload hx hb dX4_settle_22 (lv_at hl 0 rfl) ?_
        refine lv_aload_n hx hb dX4_settle_24 rfl (lv_at hl 3 rfl) ?_
        refine bn_get (ci := 3) (v := .int (nI (T.1 28))) (C := RX4) (T := TX4) (N := 31) hx hb hts hinX4 hown hK hI 0 rfl rfl 28 (by decide) lk_97 rfl (rfl) dX4_settle_25 ?_
        refine bn_cmp_ge (tgt := 46) hx hb (by omega) (by omega) dX4_settle_28 (by decide) (fun c_6 => ?_) (fun c_6 => ?_)
        · have hj28 : j = T.1 28 := by omega
          have hff2 : bh_fst T = T.1 28 := by rw [← hff, show T.1 28 - j = 0 by omega]; exact hj28
          refine lv_aload_n hx hb dX4_settle_46 rfl (lv_at hl 3 rfl) ?_
          refine lv_iload hx hb dX4_settle_47 (lv_at hl 0 rfl) ?_
          refine bn_mui (bn_muV (As := [.int (nI j)]) (rest := []) ⟨hx, hb, hml, hown, hts⟩ (cm_deliver0 l D c h ad _ T (nI j) hT28 (by unfold bh_ix; rw [nI_toInt (by omega), if_neg (by omega)])) (cwV 1 hts gX4_settle_X4_deliver rfl rfl rfl (by decide +kernel) ⟨Nat.le_of_ble_eq_true rfl, Nat.le_of_ble_eq_true rfl⟩) hK hI 0 3 rfl rfl rfl rfl hl.1 (Nat.le_of_ble_eq_true rfl) dX4_settle_49 ⟨Nat.le_of_ble_eq_true rfl, Nat.le_of_ble_eq_true rfl⟩) hI hA (fun r_7 u_7 H locs eu_7 hI => ?_)
          obtain ⟨er_7, eu_7⟩ := eu_7
          subst er_7
          rw [eu_7] at hI
          refine lv_istore_n (lv' := [(3, .int (nI 0)), (4, .int (nI j)), (2, .int (nI t)), (0, .ref h), (1, .int (nI n))]) hx hb dX4_settle_52 rfl hl (by decide) rfl (fun ls hl => ?_)
          refine lv_iload_n hx hb dX4_settle_53 rfl (lv_at hl 0 rfl) ?_
          refine lv_if_eq (tgt := 60) hx hb dX4_settle_54 (by decide) (fun c_8 => ?_) (fun c_8 => ?_)
          · refine lv_goto (tgt := 10) hx hb dX4_settle_60 (by decide) ?_
            refine lv_iload_n hx hb dX4_settle_10 rfl (lv_at hl 0 rfl) ?_
            refine lv_if_eq (tgt := 63) hx hb dX4_settle_11 (by decide) (fun c_9 => ?_) (fun c_9 => ?_)
            · refine lv_iload_n hx hb dX4_settle_63 rfl (lv_at hl 2 rfl) ?_
              exact bn_reti hx hb hr hlocks hK (T) hI (⟨by rw [hst, bh_stl_e T _ (by omega)]; rfl, by rw [hst, bh_stl_e T _ (by omega)]⟩) dX4_settle_64
            · first | exact absurd c_9 (by decide) | exact absurd (by decide) c_9
          · first | exact absurd c_8 (by decide) | exact absurd (by decide) c_8
        · refine lv_aload_n hx hb dX4_settle_31 rfl (lv_at hl 3 rfl) ?_
          refine lv_iload hx hb dX4_settle_32 (lv_at hl 0 rfl) ?_
          refine vp_callSi (bn_roV (As := [.int (nI j)]) (rest := []) ⟨hx, hb, hml, hown, hts⟩ (cm_canBe l D c h ad T j (by omega) (bh_lok_cv (hTl j (by omega)))) (cwV 1 hts gX4_settle_X4_canBe rfl rfl rfl (by decide +kernel) ⟨Nat.le_of_ble_eq_true rfl, Nat.le_of_ble_eq_true rfl⟩) hK hI 0 3 rfl rfl rfl rfl hl.1 (Nat.le_of_ble_eq_true rfl) dX4_settle_34 ⟨Nat.le_of_ble_eq_true rfl, Nat.le_of_ble_eq_true rfl⟩) (fun r_10 er_10 => ?_)
          subst er_10
          refine lv_if_ne (tgt := 46) hx hb dX4_settle_37 (by decide) (fun c_11 => ?_) (fun c_11 => ?_)
          · have q_1 := bh_tf_ne c_11
            have hjl : j < T.1 28 := by omega
            have hjf : j = bh_fst T := by rw [← hff, show T.1 28 - j = (T.1 28 - j - 1) + 1 by omega]; exact (if_pos q_1).symm
            refine lv_aload_n hx hb dX4_settle_46 rfl (lv_at hl 3 rfl) ?_
            refine lv_iload hx hb dX4_settle_47 (lv_at hl 0 rfl) ?_
            refine bn_mui (bn_muV (As := [.int (nI j)]) (rest := []) ⟨hx, hb, hml, hown, hts⟩ (cm_deliver l D c h ad _ T j (T.2.2.1 21 j).toNatClampNeg (T.2.2.1 22 j).toNatClampNeg (T.2.2.1 23 j).toNatClampNeg (T.2.2.1 24 j).toNatClampNeg (T.2.2.1 9 (T.2.2.1 22 j).toNatClampNeg).toNatClampNeg hT28 hT0 hjl (hTl j hjl) q_1) (cwV 1 hts gX4_settle_X4_deliver rfl rfl rfl (by decide +kernel) ⟨Nat.le_of_ble_eq_true rfl, Nat.le_of_ble_eq_true rfl⟩) hK hI 0 3 rfl rfl rfl rfl hl.1 (Nat.le_of_ble_eq_true rfl) dX4_settle_49 ⟨Nat.le_of_ble_eq_true rfl, Nat.le_of_ble_eq_true rfl⟩) hI hA (fun r_12 u_12 H locs eu_12 hI => ?_)
            obtain ⟨er_12, eu_12⟩ := eu_12
            subst er_12
            subst eu_12
            refine lv_istore_n (lv' := [(3, .int (nI 1)), (4, .int (nI j)), (2, .int (nI t)), (0, .ref h), (1, .int (nI n))]) hx hb dX4_settle_52 rfl hl (by decide) rfl (fun ls hl => ?_)
            refine lv_iload_n hx hb dX4_settle_53 rfl (lv_at hl 0 rfl) ?_
            refine lv_if_eq (tgt := 60) hx hb dX4_settle_54 (by decide) (fun c_13 => ?_) (fun c_13 => ?_)
            · first | exact absurd c_13 (by decide) | exact absurd (by decide) c_13
            · refine lv_iinc (v := nI (t + 1)) (lv' := [(2, .int (nI (t + 1))), (3, .int (nI 1)), (4, .int (nI j)), (0, .ref h), (1, .int (nI n))]) hx hb dX4_settle_57 hl (k := 2) rfl (nI_1 _) (by decide) rfl (fun ls hl => ?_)
              refine lv_goto (tgt := 10) hx hb dX4_settle_60 (by decide) ?_
              exact ih_2 ((bh_dlv T j, t + 1, m2 - 1)) _ _ _ ⟨hps T j hpT hjl q_1, by show t + 1 + (m2 - 1) = n; omega, by rw [hjf]; exact bh_stl_n hst (by omega) (by omega), hI, lv_sub hl [1, 0, 3, 4] rfl⟩ (by show m2 - 1 < m2; omega)
          · have q_1 := bh_tf_eq c_11
            refine lv_iinc (v := nI (j + 1)) (lv' := [(4, .int (nI (j + 1))), (3, .int (nI 1)), (2, .int (nI t)), (0, .ref h), (1, .int (nI n))]) hx hb dX4_settle_40 hl (k := 0) rfl (nI_1 _) (by decide) rfl (fun ls hl => ?_)
            refine lv_goto (tgt := 22) hx hb dX4_settle_43 (by decide) ?_
            exact ih_5 (j + 1) _ _ _ ⟨by omega, by rw [← hff, show T.1 28 - j = (T.1 28 - (j + 1)) + 1 by omega]; exact (if_neg (by rw [q_1]; decide)).symm, hI, lv_sub hl [0, 1, 2, 3, 4] rfl⟩ (by show T.1 28 - (j + 1) < T.1 28 - j; omega)
  · exact absurd (nI_pos' (by omega)) c_1
