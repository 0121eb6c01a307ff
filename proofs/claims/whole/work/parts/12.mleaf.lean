set_option maxHeartbeats 4000000 in
set_option maxRecDepth 100000 in
theorem cm_isVoter (l : Launch) (D : va_G) (c : bh_C) (h : Nat) (ad : Nat → Nat) (S : mS) (x : Int32) (hn : S.1 0 ≤ 7) : Met l yX4_isVoter wsX4_isVoter ({ frames := 0, cells := 0, slots := 0, locals := 0 }) (va_Pc [.ref h, .int (x)] (bh_pre D c (bh_mw h ad c (S)))) (vp_Si (fun r => r = bh_s (bh_ix x (S.1 0)))) 0 0 (fun _ => False) := by
  refine Met.ofW (cc := cX4_isVoter) (maxL := 2) (ret := (some .boolean)) (by decide) rfl ?_
  intro p e s m args below meth c0 s₁ B hml hv
  obtain ⟨rfl, hP, hK, hD0⟩ := hv
  have hx := B.exec
  have hb := B.bytes
  have hr := B.returns
  have hts := atoms_spec (ws := wsX4_isVoter) B.pre
  have hown : s.vm.findClass RX4 = some m.cls := findClass_of_methodNamed B.named
  have hlocks := B.notSynchronized
  have hinX4 : ∀ w ∈ wsX40, w ∈ wsX4_isVoter := fun _ h => List.mem_cons_of_mem _ (List.mem_append_right _ h)
  have lk_90 : (Cond.fieldLink RX4 90 "BallotHouseModel" "voters" "I").before _ s = true := hts _ (by decide +kernel)
  have hI : bh_I D (bh_mw h ad c (S)) (fun _ => True) s.heap s.heap [] := ⟨hP, hD0, va_S.rf⟩
  have hl := lv_entry ([.ref h, .int (x)]) (n := 2) (Nat.le_of_ble_eq_true rfl)
  rw [lg_entry_eq]
  generalize (lg_sl ([.ref h, .int (x)]) ++ List.replicate (2 - (lg_sl ([.ref h, .int (x)])).length) Slot.unset).toArray = ls at hl ⊢
  have hl : lv_has ls 2 [(0, .ref h), (1, .int (x))] := hl
  refine lv_iload_n hx hb dX4_isVoter_0 rfl (lv_at hl 1 rfl) ?_
  refine lv_if_lt (tgt := 16) hx hb dX4_isVoter_1 (by decide) (fun c_1 => ?_) (fun c_1 => ?_)
  · refine lv_iconst (v := nI 0) hx hb dX4_isVoter_16 (by decide) ?_
    exact bn_rotz hx hb hr hlocks ((by have q0 := c_1; simp only [bh_ltI, bh_leI, bh_t0, nI_toInt (show S.1 0 < 2 ^ 31 by omega)] at q0; unfold bh_ix; split <;> first | rfl | (exfalso; omega))) (by decide) dX4_isVoter_17
  · refine lv_iload_n hx hb dX4_isVoter_4 rfl (lv_at hl 1 rfl) ?_
    refine lv_aload_n hx hb dX4_isVoter_5 rfl (lv_at hl 0 rfl) ?_
    refine bn_get (ci := 3) (v := .int (nI (S.1 0))) (C := RX4) (T := TX4) (N := 31) hx hb hts hinX4 hown hK hI 0 rfl rfl 0 (by decide) lk_90 rfl (rfl) dX4_isVoter_6 ?_
    refine lv_icmp_ge (tgt := 16) hx hb dX4_isVoter_9 (by decide) (fun c_2 => ?_) (fun c_2 => ?_)
    · refine lv_iconst (v := nI 0) hx hb dX4_isVoter_16 (by decide) ?_
      exact bn_rotz hx hb hr hlocks ((by have q0 := c_1; have q1 := c_2; simp only [bh_ltI, bh_leI, bh_t0, nI_toInt (show S.1 0 < 2 ^ 31 by omega)] at q0 q1; unfold bh_ix; split <;> first | rfl | (exfalso; omega))) (by decide) dX4_isVoter_17
    · refine lv_iconst (v := nI 1) hx hb dX4_isVoter_12 (by decide) ?_
      refine lv_goto (tgt := 17) hx hb dX4_isVoter_13 (by decide) ?_
      exact bn_rotz hx hb hr hlocks ((by have q0 := c_1; have q1 := c_2; simp only [bh_ltI, bh_leI, bh_t0, nI_toInt (show S.1 0 < 2 ^ 31 by omega)] at q0 q1; unfold bh_ix; split <;> first | rfl | (exfalso; omega))) (by decide) dX4_isVoter_17
set_option maxHeartbeats 4000000 in
set_option maxRecDepth 100000 in
theorem cm_isBallot (l : Launch) (D : va_G) (c : bh_C) (h : Nat) (ad : Nat → Nat) (S : mS) (x : Int32) (hn : S.1 18 ≤ 24) : Met l yX4_isBallot wsX4_isBallot ({ frames := 0, cells := 0, slots := 0, locals := 0 }) (va_Pc [.ref h, .int (x)] (bh_pre D c (bh_mw h ad c (S)))) (vp_Si (fun r => r = bh_s (bh_ixb x (S.1 18)))) 0 0 (fun _ => False) := by
  refine Met.ofW (cc := cX4_isBallot) (maxL := 2) (ret := (some .boolean)) (by decide) rfl ?_
  intro p e s m args below meth c0 s₁ B hml hv
  obtain ⟨rfl, hP, hK, hD0⟩ := hv
  have hx := B.exec
  have hb := B.bytes
  have hr := B.returns
  have hts := atoms_spec (ws := wsX4_isBallot) B.pre
  have hown : s.vm.findClass RX4 = some m.cls := findClass_of_methodNamed B.named
  have hlocks := B.notSynchronized
  have hinX4 : ∀ w ∈ wsX40, w ∈ wsX4_isBallot := fun _ h => List.mem_cons_of_mem _ (List.mem_append_right _ h)
  have lk_94 : (Cond.fieldLink RX4 94 "BallotHouseModel" "ballots" "I").before _ s = true := hts _ (by decide +kernel)
  have hI : bh_I D (bh_mw h ad c (S)) (fun _ => True) s.heap s.heap [] := ⟨hP, hD0, va_S.rf⟩
  have hl := lv_entry ([.ref h, .int (x)]) (n := 2) (Nat.le_of_ble_eq_true rfl)
  rw [lg_entry_eq]
  generalize (lg_sl ([.ref h, .int (x)]) ++ List.replicate (2 - (lg_sl ([.ref h, .int (x)])).length) Slot.unset).toArray = ls at hl ⊢
  have hl : lv_has ls 2 [(0, .ref h), (1, .int (x))] := hl
  refine lv_iload_n hx hb dX4_isBallot_0 rfl (lv_at hl 1 rfl) ?_
  refine lv_iconst (v := nI 1) hx hb dX4_isBallot_1 (by decide) ?_
  refine lv_icmp_lt (tgt := 17) hx hb dX4_isBallot_2 (by decide) (fun c_1 => ?_) (fun c_1 => ?_)
  · refine lv_iconst (v := nI 0) hx hb dX4_isBallot_17 (by decide) ?_
    exact bn_rotz hx hb hr hlocks ((by have q0 := c_1; simp only [bh_ltI, bh_leI, bh_t0, nI_toInt (show S.1 18 < 2 ^ 31 by omega), nI_toInt (show 1 < 2 ^ 31 by omega)] at q0; unfold bh_ixb; split <;> first | rfl | (exfalso; omega))) (by decide) dX4_isBallot_18
  · refine lv_iload_n hx hb dX4_isBallot_5 rfl (lv_at hl 1 rfl) ?_
    refine lv_aload_n hx hb dX4_isBallot_6 rfl (lv_at hl 0 rfl) ?_
    refine bn_get (ci := 3) (v := .int (nI (S.1 18))) (C := RX4) (T := TX4) (N := 31) hx hb hts hinX4 hown hK hI 0 rfl rfl 18 (by decide) lk_94 rfl (rfl) dX4_isBallot_7 ?_
    refine lv_icmp_gt (tgt := 17) hx hb dX4_isBallot_10 (by decide) (fun c_2 => ?_) (fun c_2 => ?_)
    · refine lv_iconst (v := nI 0) hx hb dX4_isBallot_17 (by decide) ?_
      exact bn_rotz hx hb hr hlocks ((by have q0 := c_1; have q1 := c_2; simp only [bh_ltI, bh_leI, bh_t0, nI_toInt (show S.1 18 < 2 ^ 31 by omega), nI_toInt (show 1 < 2 ^ 31 by omega)] at q0 q1; unfold bh_ixb; split <;> first | rfl | (exfalso; omega))) (by decide) dX4_isBallot_18
    · refine lv_iconst (v := nI 1) hx hb dX4_isBallot_13 (by decide) ?_
      refine lv_goto (tgt := 18) hx hb dX4_isBallot_14 (by decide) ?_
      exact bn_rotz hx hb hr hlocks ((by have q0 := c_1; have q1 := c_2; simp only [bh_ltI, bh_leI, bh_t0, nI_toInt (show S.1 18 < 2 ^ 31 by omega), nI_toInt (show 1 < 2 ^ 31 by omega)] at q0 q1; unfold bh_ixb; split <;> first | rfl | (exfalso; omega))) (by decide) dX4_isBallot_18
set_option maxHeartbeats 4000000 in
set_option maxRecDepth 100000 in
theorem cm_isPlace (l : Launch) (x : Int32) : Met l yX4_isPlace wsX4_isPlace ({ frames := 0, cells := 0, slots := 0, locals := 0 }) (va_Pc [.int (x)] (fun _ => True)) (vp_Si (fun r => r = bh_s (bh_ix x 8))) 0 0 (fun _ => False) := by
  refine Met.ofW (cc := cX4_isPlace) (maxL := 1) (ret := (some .boolean)) (by decide) rfl ?_
  intro p e s m args below meth c0 s₁ B hml hv
  obtain ⟨rfl, -⟩ := hv
  have hx := B.exec
  have hb := B.bytes
  have hr := B.returns
  have hts := atoms_spec (ws := wsX4_isPlace) B.pre
  have hown : s.vm.findClass RX4 = some m.cls := findClass_of_methodNamed B.named
  have hlocks := B.notSynchronized
  have hl := lv_entry ([.int (x)]) (n := 1) (Nat.le_of_ble_eq_true rfl)
  rw [lg_entry_eq]
  generalize (lg_sl ([.int (x)]) ++ List.replicate (1 - (lg_sl ([.int (x)])).length) Slot.unset).toArray = ls at hl ⊢
  have hl : lv_has ls 1 [(0, .int (x))] := hl
  refine lv_iload_n hx hb dX4_isPlace_0 rfl (lv_at hl 0 rfl) ?_
  refine lv_if_lt (tgt := 14) hx hb dX4_isPlace_1 (by decide) (fun c_1 => ?_) (fun c_1 => ?_)
  · refine lv_iconst (v := nI 0) hx hb dX4_isPlace_14 (by decide) ?_
    exact bn_rotz hx hb hr hlocks ((by have q0 := c_1; simp only [bh_ltI, bh_leI, bh_t0, nI_toInt (show 8 < 2 ^ 31 by omega)] at q0; unfold bh_ix; split <;> first | rfl | (exfalso; omega))) (by decide) dX4_isPlace_15
  · refine lv_iload_n hx hb dX4_isPlace_4 rfl (lv_at hl 0 rfl) ?_
    refine lv_bipush (v := nI 8) hx hb dX4_isPlace_5 (by decide) ?_
    refine lv_icmp_ge (tgt := 14) hx hb dX4_isPlace_7 (by decide) (fun c_2 => ?_) (fun c_2 => ?_)
    · refine lv_iconst (v := nI 0) hx hb dX4_isPlace_14 (by decide) ?_
      exact bn_rotz hx hb hr hlocks ((by have q0 := c_1; have q1 := c_2; simp only [bh_ltI, bh_leI, bh_t0, nI_toInt (show 8 < 2 ^ 31 by omega)] at q0 q1; unfold bh_ix; split <;> first | rfl | (exfalso; omega))) (by decide) dX4_isPlace_15
    · refine lv_iconst (v := nI 1) hx hb dX4_isPlace_10 (by decide) ?_
      refine lv_goto (tgt := 15) hx hb dX4_isPlace_11 (by decide) ?_
      exact bn_rotz hx hb hr hlocks ((by have q0 := c_1; have q1 := c_2; simp only [bh_ltI, bh_leI, bh_t0, nI_toInt (show 8 < 2 ^ 31 by omega)] at q0 q1; unfold bh_ix; split <;> first | rfl | (exfalso; omega))) (by decide) dX4_isPlace_15
set_option maxHeartbeats 4000000 in
set_option maxRecDepth 100000 in
theorem cm_many (l : Launch) (x : Int32) : Met l yX4_many wsX4_many ({ frames := 0, cells := 0, slots := 0, locals := 0 }) (va_Pc [.int (x)] (fun _ => True)) (vp_Si (fun r => r = bh_many x)) 0 0 (fun _ => False) := by
  refine Met.ofW (cc := cX4_many) (maxL := 3) (ret := (some .int)) (by decide) rfl ?_
  intro p e s m args below meth c0 s₁ B hml hv
  obtain ⟨rfl, -⟩ := hv
  have hx := B.exec
  have hb := B.bytes
  have hr := B.returns
  have hts := atoms_spec (ws := wsX4_many) B.pre
  have hown : s.vm.findClass RX4 = some m.cls := findClass_of_methodNamed B.named
  have hlocks := B.notSynchronized
  have hl := lv_entry ([.int (x)]) (n := 3) (Nat.le_of_ble_eq_true rfl)
  rw [lg_entry_eq]
  generalize (lg_sl ([.int (x)]) ++ List.replicate (3 - (lg_sl ([.int (x)])).length) Slot.unset).toArray = ls at hl ⊢
  have hl : lv_has ls 3 [(0, .int (x))] := hl
  refine lv_iconst (v := nI 0) hx hb dX4_many_0 (by decide) ?_
  refine lv_istore_n (lv' := [(1, .int (nI 0)), (0, .int (x))]) hx hb dX4_many_1 rfl hl (by decide) rfl (fun ls hl => ?_)
  refine lv_iconst (v := nI 0) hx hb dX4_many_2 (by decide) ?_
  refine lv_istore_n (lv' := [(2, .int (nI 0)), (1, .int (nI 0)), (0, .int (x))]) hx hb dX4_many_3 rfl hl (by decide) rfl (fun ls hl => ?_)
  refine bh_loop (σ := Nat) (fun (k : Nat) H locs ls => H = s.heap ∧ locs = [] ∧ k ≤ 7 ∧ lv_has ls 3 [(2, .int (nI k)), (1, .int (bh_manyL x k)), (0, .int (x))]) (fun (k : Nat) => 7 - k) (fun k H locs ls hx_1 ih_1 => ?_) 0 _ _ _ ⟨rfl, rfl, Nat.zero_le 7, lv_sub hl [0, 1, 2] rfl⟩
  clear hl
  obtain ⟨rfl, rfl, hk, hl⟩ := hx_1
  refine lv_iload_n hx hb dX4_many_4 rfl (lv_at hl 0 rfl) ?_
  refine lv_bipush (v := nI 7) hx hb dX4_many_5 (by decide) ?_
  refine bn_cmp_ge (tgt := 24) hx hb (by omega) (by omega) dX4_many_7 (by decide) (fun c_2 => ?_) (fun c_2 => ?_)
  · refine lv_iload_n hx hb dX4_many_24 rfl (lv_at hl 1 rfl) ?_
    exact bn_roti hx hb hr hlocks (by rw [show k = 7 by omega]; rfl) dX4_many_25
  · refine lv_iload_n hx hb dX4_many_10 rfl (lv_at hl 1 rfl) ?_
    refine lv_iload_n hx hb dX4_many_11 rfl (lv_at hl 2 rfl) ?_
    refine lv_iload_n hx hb dX4_many_12 rfl (lv_at hl 0 rfl) ?_
    refine lv_ishr hx hb dX4_many_13 ?_
    refine lv_iconst (v := nI 1) hx hb dX4_many_14 (by decide) ?_
    refine lv_iand hx hb dX4_many_15 ?_
    refine lv_iadd hx hb dX4_many_16 ?_
    refine lv_istore_n (lv' := [(1, .int ((bh_manyL x k) + ((x >>> ((nI k) &&& 31)) &&& (nI 1)))), (2, .int (nI k)), (0, .int (x))]) hx hb dX4_many_17 rfl hl (by decide) rfl (fun ls hl => ?_)
    refine lv_iinc (v := nI (k + 1)) (lv' := [(2, .int (nI (k + 1))), (1, .int ((bh_manyL x k) + ((x >>> ((nI k) &&& 31)) &&& (nI 1)))), (0, .int (x))]) hx hb dX4_many_18 hl (k := 1) rfl (nI_1 _) (by decide) rfl (fun ls hl => ?_)
    refine lv_goto (tgt := 4) hx hb dX4_many_21 (by decide) ?_
    exact ih_1 (k + 1) _ _ _ ⟨rfl, rfl, by omega, lv_sub hl [0, 1, 2] rfl⟩ (by show 7 - (k + 1) < 7 - k; omega)
set_option maxHeartbeats 4000000 in
set_option maxRecDepth 100000 in
theorem cm_put3 (l : Launch) (D : va_G) (c : bh_C) (h : Nat) (ad : Nat → Nat) (sz : Nat) (S : mS) (bb : Int32) (v : Nat) (pp : Int32) (x : Int64) (ha : S.1 28 ≤ 400) (hv : v < 7) : Met l yX4_put wsX4_put ({ frames := 0, cells := 0, slots := 0, locals := 0 }) (va_Pc [.ref h, .int (nI 3), .int (bb), .int (nI v), .int (pp), .long (x)] (bh_prm D c (bh_mw h ad c (S)) sz)) (va_Qv (fun u : mS => u = bh_put S (nI 3) bb (nI v) pp x (fun k => S.2.2.1 2 (8 * v + k)) (fun k => S.2.2.2 3 (8 * v + k))) (fun u t => bh_post D c (bh_mw h ad c u) (va_A (bh_mw h ad c (S)) sz) t) (va_A (bh_mw h ad c (S)) sz)) 0 0 (va_A (bh_mw h ad c (S)) sz) := by
  refine Met.ofW (cc := cX4_put) (maxL := 8) (ret := none) (by decide) rfl ?_
  intro p e s m args below meth c0 s₁ B hml hv
  obtain ⟨rfl, hsz, hP, hK, hD0⟩ := hv
  have hx := B.exec
  have hb := B.bytes
  have hr := B.returns
  have hts := atoms_spec (ws := wsX4_put) B.pre
  have hown : s.vm.findClass RX4 = some m.cls := findClass_of_methodNamed B.named
  have hlocks := B.notSynchronized
  have hinX4 : ∀ w ∈ wsX40, w ∈ wsX4_put := fun _ h => List.mem_cons_of_mem _ (List.mem_append_right _ h)
  have lk_13 : (Cond.fieldLink RX4 13 "BallotHouseModel" "vote" "[I").before _ s = true := hts _ (by decide +kernel)
  have lk_16 : (Cond.fieldLink RX4 16 "BallotHouseModel" "value" "[J").before _ s = true := hts _ (by decide +kernel)
  have lk_63 : (Cond.fieldLink RX4 63 "BallotHouseModel" "airKind" "[I").before _ s = true := hts _ (by decide +kernel)
  have lk_66 : (Cond.fieldLink RX4 66 "BallotHouseModel" "airBallot" "[I").before _ s = true := hts _ (by decide +kernel)
  have lk_69 : (Cond.fieldLink RX4 69 "BallotHouseModel" "airVoter" "[I").before _ s = true := hts _ (by decide +kernel)
  have lk_72 : (Cond.fieldLink RX4 72 "BallotHouseModel" "airPlace" "[I").before _ s = true := hts _ (by decide +kernel)
  have lk_75 : (Cond.fieldLink RX4 75 "BallotHouseModel" "airVote" "[I").before _ s = true := hts _ (by decide +kernel)
  have lk_78 : (Cond.fieldLink RX4 78 "BallotHouseModel" "airValue" "[J").before _ s = true := hts _ (by decide +kernel)
  have lk_81 : (Cond.fieldLink RX4 81 "BallotHouseModel" "airValues" "[J").before _ s = true := hts _ (by decide +kernel)
  have lk_97 : (Cond.fieldLink RX4 97 "BallotHouseModel" "air" "I").before _ s = true := hts _ (by decide +kernel)
  have lk_100 : (Cond.fieldLink RX4 100 "BallotHouseModel" "lost" "I").before _ s = true := hts _ (by decide +kernel)
  subst hsz
  have hI := bh_start hP hD0
  generalize hAe : va_A (bh_mw h ad c (S)) s.heap.size = A at hI ⊢
  have hA : ∀ q : Nat, s.heap.size ≤ q → A q := fun q h => by rw [← hAe]; exact Or.inr h
  clear hP hD0 hAe
  have hl := lv_entry ([.ref h, .int (nI 3), .int (bb), .int (nI v), .int (pp), .long (x)]) (n := 8) (Nat.le_of_ble_eq_true rfl)
  rw [lg_entry_eq]
  generalize (lg_sl ([.ref h, .int (nI 3), .int (bb), .int (nI v), .int (pp), .long (x)]) ++ List.replicate (8 - (lg_sl ([.ref h, .int (nI 3), .int (bb), .int (nI v), .int (pp), .long (x)])).length) Slot.unset).toArray = ls at hl ⊢
  have hl : lv_has ls 8 [(0, .ref h), (1, .int (nI 3)), (2, .int (bb)), (3, .int (nI v)), (4, .int (pp)), (5, .long (x))] := hl
  refine lv_aload_n hx hb dX4_put_0 rfl (lv_at hl 0 rfl) ?_
  refine bn_get (ci := 3) (v := .int (nI (S.1 28))) (C := RX4) (T := TX4) (N := 31) hx hb hts hinX4 hown hK hI 0 rfl rfl 28 (by decide) lk_97 rfl (rfl) dX4_put_1 ?_
  refine lv_sipush (v := nI 400) hx hb dX4_put_4 (by decide) ?_
  refine bn_cmp_ne (tgt := 21) hx hb (by omega) (by omega) dX4_put_7 (by decide) (fun c_1 => ?_) (fun c_1 => ?_)
  · refine lv_aload_n hx hb dX4_put_21 rfl (lv_at hl 0 rfl) ?_
    refine bn_get (ci := 3) (v := .ref (ad 21)) (C := RX4) (T := TX4) (N := 31) hx hb hts hinX4 hown hK hI 0 rfl rfl 21 (by decide) lk_63 rfl (rfl) dX4_put_22 ?_
    refine lv_aload_n hx hb dX4_put_25 rfl (lv_at hl 0 rfl) ?_
    refine bn_get (ci := 3) (v := .int (nI (S.1 28))) (C := RX4) (T := TX4) (N := 31) hx hb hts hinX4 hown hK hI 0 rfl rfl 28 (by decide) lk_97 rfl (rfl) dX4_put_26 ?_
    refine lv_iload_n hx hb dX4_put_29 rfl (lv_at hl 1 rfl) ?_
    refine bn_iast (n := 400) (ws' := bh_mw h ad c (bh_r S 21 (S.1 28) (nI 3))) hx hb hK hI 18 0 rfl rfl (by omega) (by first | decide | omega) dX4_put_30 rfl (fun H locs hI => ?_)
    refine lv_aload_n hx hb dX4_put_31 rfl (lv_at hl 0 rfl) ?_
    refine bn_get (ci := 3) (v := .ref (ad 22)) (C := RX4) (T := TX4) (N := 31) hx hb hts hinX4 hown hK hI 0 rfl rfl 22 (by decide) lk_66 rfl (rfl) dX4_put_32 ?_
    refine lv_aload_n hx hb dX4_put_35 rfl (lv_at hl 0 rfl) ?_
    refine bn_get (ci := 3) (v := .int (nI (S.1 28))) (C := RX4) (T := TX4) (N := 31) hx hb hts hinX4 hown hK hI 0 rfl rfl 28 (by decide) lk_97 rfl (rfl) dX4_put_36 ?_
    refine lv_iload_n hx hb dX4_put_39 rfl (lv_at hl 2 rfl) ?_
    refine bn_iast (n := 400) (ws' := bh_mw h ad c (bh_r (bh_r S 21 (S.1 28) (nI 3)) 22 (S.1 28) bb)) hx hb hK hI 19 0 rfl rfl (by omega) (by first | decide | omega) dX4_put_40 rfl (fun H locs hI => ?_)
    refine lv_aload_n hx hb dX4_put_41 rfl (lv_at hl 0 rfl) ?_
    refine bn_get (ci := 3) (v := .ref (ad 23)) (C := RX4) (T := TX4) (N := 31) hx hb hts hinX4 hown hK hI 0 rfl rfl 23 (by decide) lk_69 rfl (rfl) dX4_put_42 ?_
    refine lv_aload_n hx hb dX4_put_45 rfl (lv_at hl 0 rfl) ?_
    refine bn_get (ci := 3) (v := .int (nI (S.1 28))) (C := RX4) (T := TX4) (N := 31) hx hb hts hinX4 hown hK hI 0 rfl rfl 28 (by decide) lk_97 rfl (rfl) dX4_put_46 ?_
    refine lv_iload_n hx hb dX4_put_49 rfl (lv_at hl 3 rfl) ?_
    refine bn_iast (n := 400) (ws' := bh_mw h ad c (bh_r (bh_r (bh_r S 21 (S.1 28) (nI 3)) 22 (S.1 28) bb) 23 (S.1 28) (nI v))) hx hb hK hI 20 0 rfl rfl (by omega) (by first | decide | omega) dX4_put_50 rfl (fun H locs hI => ?_)
    refine lv_aload_n hx hb dX4_put_51 rfl (lv_at hl 0 rfl) ?_
    refine bn_get (ci := 3) (v := .ref (ad 24)) (C := RX4) (T := TX4) (N := 31) hx hb hts hinX4 hown hK hI 0 rfl rfl 24 (by decide) lk_72 rfl (rfl) dX4_put_52 ?_
    refine lv_aload_n hx hb dX4_put_55 rfl (lv_at hl 0 rfl) ?_
    refine bn_get (ci := 3) (v := .int (nI (S.1 28))) (C := RX4) (T := TX4) (N := 31) hx hb hts hinX4 hown hK hI 0 rfl rfl 28 (by decide) lk_97 rfl (rfl) dX4_put_56 ?_
    refine lv_iload hx hb dX4_put_59 (lv_at hl 4 rfl) ?_
    refine bn_iast (n := 400) (ws' := bh_mw h ad c (bh_r (bh_r (bh_r (bh_r S 21 (S.1 28) (nI 3)) 22 (S.1 28) bb) 23 (S.1 28) (nI v)) 24 (S.1 28) pp)) hx hb hK hI 21 0 rfl rfl (by omega) (by first | decide | omega) dX4_put_61 rfl (fun H locs hI => ?_)
    refine lv_aload_n hx hb dX4_put_62 rfl (lv_at hl 0 rfl) ?_
    refine bn_get (ci := 3) (v := .ref (ad 26)) (C := RX4) (T := TX4) (N := 31) hx hb hts hinX4 hown hK hI 0 rfl rfl 26 (by decide) lk_78 rfl (rfl) dX4_put_63 ?_
    refine lv_aload_n hx hb dX4_put_66 rfl (lv_at hl 0 rfl) ?_
    refine bn_get (ci := 3) (v := .int (nI (S.1 28))) (C := RX4) (T := TX4) (N := 31) hx hb hts hinX4 hown hK hI 0 rfl rfl 28 (by decide) lk_97 rfl (rfl) dX4_put_67 ?_
    refine lv_lload hx hb dX4_put_70 (lv_at hl 5 rfl) ?_
    refine bn_last (n := 400) (ws' := bh_mw h ad c (bh_l (bh_r (bh_r (bh_r (bh_r S 21 (S.1 28) (nI 3)) 22 (S.1 28) bb) 23 (S.1 28) (nI v)) 24 (S.1 28) pp) 26 (S.1 28) x)) hx hb hK hI 23 1 rfl rfl (by omega) (by first | decide | omega) dX4_put_72 rfl (fun H locs hI => ?_)
    refine lv_iconst (v := nI 0) hx hb dX4_put_73 (by decide) ?_
    refine lv_istore (lv' := [(7, .int (nI 0)), (0, .ref h), (1, .int (nI 3)), (2, .int (bb)), (3, .int (nI v)), (4, .int (pp)), (5, .long (x))]) hx hb dX4_put_74 hl (by decide) rfl (fun ls hl => ?_)
    refine bh_loop (σ := Nat) (fun (k : Nat) H locs ls => k ≤ 8 ∧ bh_I D (bh_mw h ad c (bh_bl (bh_putA S (nI 3) bb (nI v) pp x) (8 * S.1 28) k (fun k => S.2.2.1 2 (8 * v + k)) (fun k => S.2.2.2 3 (8 * v + k)))) A s.heap H locs ∧ lv_has ls 8 [(7, .int (nI k)), (0, .ref h), (1, .int (nI 3)), (2, .int (bb)), (3, .int (nI v)), (4, .int (pp)), (5, .long (x))]) (fun (k : Nat) => 8 - k) (fun k H locs ls hx_2 ih_2 => ?_) 0 _ _ _ ⟨Nat.zero_le 8, (by rw [bh_bl_0]; exact hI), lv_sub hl [0, 1, 2, 3, 4, 5, 6] rfl⟩
    clear hl hI
    obtain ⟨hk, hI, hl⟩ := hx_2
    refine lv_iload hx hb dX4_put_76 (lv_at hl 0 rfl) ?_
    refine lv_bipush (v := nI 8) hx hb dX4_put_78 (by decide) ?_
    refine bn_cmp_ge (tgt := 161) hx hb (by omega) (by omega) dX4_put_80 (by decide) (fun c_3 => ?_) (fun c_3 => ?_)
    · refine lv_aload_n hx hb dX4_put_161 rfl (lv_at hl 1 rfl) ?_
      refine lv_dup hx hb dX4_put_162 rfl ?_
      refine bn_get (ci := 3) (v := .int (nI (S.1 28))) (C := RX4) (T := TX4) (N := 31) hx hb hts hinX4 hown hK hI 0 rfl rfl 28 (by decide) lk_97 rfl (rfl) dX4_put_163 ?_
      refine lv_iconst (v := nI 1) hx hb dX4_put_166 (by decide) ?_
      refine bn_iadd hx hb dX4_put_167 ?_
      refine bn_put (ci := 3) (v := .int (nI ((S.1 28) + 1))) (ty := .int) (C := RX4) (T := TX4) (N := 31) (ws' := bh_mw h ad c (bh_n (bh_bl (bh_putA S (nI 3) bb (nI v) pp x) (8 * S.1 28) k (fun k => S.2.2.1 2 (8 * v + k)) (fun k => S.2.2.2 3 (8 * v + k))) 28 ((S.1 28) + 1))) hx hb hts hinX4 tyX4 tyX4_ok nmX4 hown hK hI 0 rfl rfl 28 (by decide) lk_97 rfl rfl rfl rfl rfl (Nat.le_of_ble_eq_true rfl) dX4_put_168 rfl (fun H locs hI => ?_)
      exact bn_retv hx hb hr hlocks hK (bh_n (bh_bl (bh_putA S (nI 3) bb (nI v) pp x) (8 * S.1 28) k (fun k => S.2.2.1 2 (8 * v + k)) (fun k => S.2.2.2 3 (8 * v + k))) 28 ((S.1 28) + 1)) hI (by rw [show k = 8 by omega]; unfold bh_put; rw [if_neg c_1]) dX4_put_171
    · refine lv_aload_n hx hb dX4_put_83 rfl (lv_at hl 1 rfl) ?_
      refine bn_get (ci := 3) (v := .ref (ad 25)) (C := RX4) (T := TX4) (N := 31) hx hb hts hinX4 hown hK hI 0 rfl rfl 25 (by decide) lk_75 rfl (rfl) dX4_put_84 ?_
      refine lv_bipush (v := nI 8) hx hb dX4_put_87 (by decide) ?_
      refine lv_aload_n hx hb dX4_put_89 rfl (lv_at hl 1 rfl) ?_
      refine bn_get (ci := 3) (v := .int (nI (S.1 28))) (C := RX4) (T := TX4) (N := 31) hx hb hts hinX4 hown hK hI 0 rfl rfl 28 (by decide) lk_97 rfl (rfl) dX4_put_90 ?_
      refine bn_imul hx hb dX4_put_93 ?_
      refine lv_iload hx hb dX4_put_94 (lv_at hl 0 rfl) ?_
      refine bn_iadd hx hb dX4_put_96 ?_
      refine lv_iload_n hx hb dX4_put_97 rfl (lv_at hl 2 rfl) ?_
      refine lv_iconst (v := nI 3) hx hb dX4_put_98 (by decide) ?_
      refine bn_cmp_ne (tgt := 117) hx hb (by omega) (by omega) dX4_put_99 (by decide) (fun c_4 => ?_) (fun c_4 => ?_)
      · exact absurd rfl c_4
      · refine lv_aload_n hx hb dX4_put_102 rfl (lv_at hl 1 rfl) ?_
        refine bn_get (ci := 3) (v := .ref (ad 2)) (C := RX4) (T := TX4) (N := 31) hx hb hts hinX4 hown hK hI 0 rfl rfl 2 (by decide) lk_13 rfl (rfl) dX4_put_103 ?_
        refine lv_bipush (v := nI 8) hx hb dX4_put_106 (by decide) ?_
        refine lv_iload_n hx hb dX4_put_108 rfl (lv_at hl 4 rfl) ?_
        refine bn_imul hx hb dX4_put_109 ?_
        refine lv_iload hx hb dX4_put_110 (lv_at hl 0 rfl) ?_
        refine bn_iadd hx hb dX4_put_112 ?_
        refine bn_iald (n := 56) (v := S.2.2.1 2 ((8 * v) + k)) hx hb hK hI 2 0 rfl rfl (by omega) (by first | decide | omega) (rfl) dX4_put_113 ?_
        refine lv_goto (tgt := 118) hx hb dX4_put_114 (by decide) ?_
        refine bn_iast (n := 3200) (ws' := bh_mw h ad c (bh_r (bh_bl (bh_putA S (nI 3) bb (nI v) pp x) (8 * S.1 28) k (fun k => S.2.2.1 2 (8 * v + k)) (fun k => S.2.2.2 3 (8 * v + k))) 25 ((8 * (S.1 28)) + k) (S.2.2.1 2 ((8 * v) + k)))) hx hb hK hI 22 0 rfl rfl (by omega) (by first | decide | omega) dX4_put_118 rfl (fun H locs hI => ?_)
        refine lv_aload_n hx hb dX4_put_119 rfl (lv_at hl 1 rfl) ?_
        refine bn_get (ci := 3) (v := .ref (ad 27)) (C := RX4) (T := TX4) (N := 31) hx hb hts hinX4 hown hK hI 0 rfl rfl 27 (by decide) lk_81 rfl (rfl) dX4_put_120 ?_
        refine lv_bipush (v := nI 8) hx hb dX4_put_123 (by decide) ?_
        refine lv_aload_n hx hb dX4_put_125 rfl (lv_at hl 1 rfl) ?_
        refine bn_get (ci := 3) (v := .int (nI (S.1 28))) (C := RX4) (T := TX4) (N := 31) hx hb hts hinX4 hown hK hI 0 rfl rfl 28 (by decide) lk_97 rfl (rfl) dX4_put_126 ?_
        refine bn_imul hx hb dX4_put_129 ?_
        refine lv_iload hx hb dX4_put_130 (lv_at hl 0 rfl) ?_
        refine bn_iadd hx hb dX4_put_132 ?_
        refine lv_iload_n hx hb dX4_put_133 rfl (lv_at hl 2 rfl) ?_
        refine lv_iconst (v := nI 3) hx hb dX4_put_134 (by decide) ?_
        refine bn_cmp_ne (tgt := 153) hx hb (by omega) (by omega) dX4_put_135 (by decide) (fun c_5 => ?_) (fun c_5 => ?_)
        · exact absurd rfl c_5
        · refine lv_aload_n hx hb dX4_put_138 rfl (lv_at hl 1 rfl) ?_
          refine bn_get (ci := 3) (v := .ref (ad 3)) (C := RX4) (T := TX4) (N := 31) hx hb hts hinX4 hown hK hI 0 rfl rfl 3 (by decide) lk_16 rfl (rfl) dX4_put_139 ?_
          refine lv_bipush (v := nI 8) hx hb dX4_put_142 (by decide) ?_
          refine lv_iload_n hx hb dX4_put_144 rfl (lv_at hl 4 rfl) ?_
          refine bn_imul hx hb dX4_put_145 ?_
          refine lv_iload hx hb dX4_put_146 (lv_at hl 0 rfl) ?_
          refine bn_iadd hx hb dX4_put_148 ?_
          refine bn_lald (n := 56) (v := S.2.2.2 3 ((8 * v) + k)) hx hb hK hI 3 1 rfl rfl (by omega) (by first | decide | omega) (rfl) dX4_put_149 ?_
          refine lv_goto (tgt := 154) hx hb dX4_put_150 (by decide) ?_
          refine bn_last (n := 3200) (ws' := bh_mw h ad c (bh_l (bh_r (bh_bl (bh_putA S (nI 3) bb (nI v) pp x) (8 * S.1 28) k (fun k => S.2.2.1 2 (8 * v + k)) (fun k => S.2.2.2 3 (8 * v + k))) 25 ((8 * (S.1 28)) + k) (S.2.2.1 2 ((8 * v) + k))) 27 ((8 * (S.1 28)) + k) (S.2.2.2 3 ((8 * v) + k)))) hx hb hK hI 24 1 rfl rfl (by omega) (by first | decide | omega) dX4_put_154 rfl (fun H locs hI => ?_)
          refine lv_iinc (v := nI (k + 1)) (lv' := [(7, .int (nI (k + 1))), (0, .ref h), (1, .int (nI 3)), (2, .int (bb)), (3, .int (nI v)), (4, .int (pp)), (5, .long (x))]) hx hb dX4_put_155 hl (k := 0) rfl (nI_1 _) (by decide) rfl (fun ls hl => ?_)
          refine lv_goto (tgt := 76) hx hb dX4_put_158 (by decide) ?_
          exact ih_2 (k + 1) _ _ _ ⟨by omega, (by rw [← bh_bl_s]; exact hI), lv_sub hl [0, 1, 2, 3, 4, 5, 6] rfl⟩ (by show 8 - (k + 1) < 8 - k; omega)
  · refine lv_aload_n hx hb dX4_put_10 rfl (lv_at hl 0 rfl) ?_
    refine lv_dup hx hb dX4_put_11 rfl ?_
    refine bn_get (ci := 3) (v := .int (S.2.1 20)) (C := RX4) (T := TX4) (N := 31) hx hb hts hinX4 hown hK hI 0 rfl rfl 20 (by decide) lk_100 rfl (rfl) dX4_put_12 ?_
    refine lv_iconst (v := nI 1) hx hb dX4_put_15 (by decide) ?_
    refine lv_iadd hx hb dX4_put_16 ?_
    refine bn_put (ci := 3) (v := .int ((S.2.1 20) + (nI 1))) (ty := .int) (C := RX4) (T := TX4) (N := 31) (ws' := bh_mw h ad c (bh_i S 20 ((S.2.1 20) + (nI 1)))) hx hb hts hinX4 tyX4 tyX4_ok nmX4 hown hK hI 0 rfl rfl 20 (by decide) lk_100 rfl rfl rfl rfl rfl (Nat.le_of_ble_eq_true rfl) dX4_put_17 rfl (fun H locs hI => ?_)
    exact bn_retv hx hb hr hlocks hK (bh_i S 20 ((S.2.1 20) + (nI 1))) hI (by unfold bh_put; rw [if_pos c_1]) dX4_put_20
set_option maxHeartbeats 4000000 in
set_option maxRecDepth 100000 in
theorem cm_put (l : Launch) (D : va_G) (c : bh_C) (h : Nat) (ad : Nat → Nat) (sz : Nat) (S : mS) (w : Nat) (bb vv pp : Int32) (x : Int64) (ha : S.1 28 ≤ 400) (hw : w < 8) (hw3 : w ≠ 3) : Met l yX4_put wsX4_put ({ frames := 0, cells := 0, slots := 0, locals := 0 }) (va_Pc [.ref h, .int (nI w), .int (bb), .int (vv), .int (pp), .long (x)] (bh_prm D c (bh_mw h ad c (S)) sz)) (va_Qv (fun u : mS => u = bh_put S (nI w) bb vv pp x (fun _ => nI 0) (fun _ => 0)) (fun u t => bh_post D c (bh_mw h ad c u) (va_A (bh_mw h ad c (S)) sz) t) (va_A (bh_mw h ad c (S)) sz)) 0 0 (va_A (bh_mw h ad c (S)) sz) := by
  refine Met.ofW (cc := cX4_put) (maxL := 8) (ret := none) (by decide) rfl ?_
  intro p e s m args below meth c0 s₁ B hml hv
  obtain ⟨rfl, hsz, hP, hK, hD0⟩ := hv
  have hx := B.exec
  have hb := B.bytes
  have hr := B.returns
  have hts := atoms_spec (ws := wsX4_put) B.pre
  have hown : s.vm.findClass RX4 = some m.cls := findClass_of_methodNamed B.named
  have hlocks := B.notSynchronized
  have hinX4 : ∀ w ∈ wsX40, w ∈ wsX4_put := fun _ h => List.mem_cons_of_mem _ (List.mem_append_right _ h)
  have lk_63 : (Cond.fieldLink RX4 63 "BallotHouseModel" "airKind" "[I").before _ s = true := hts _ (by decide +kernel)
  have lk_66 : (Cond.fieldLink RX4 66 "BallotHouseModel" "airBallot" "[I").before _ s = true := hts _ (by decide +kernel)
  have lk_69 : (Cond.fieldLink RX4 69 "BallotHouseModel" "airVoter" "[I").before _ s = true := hts _ (by decide +kernel)
  have lk_72 : (Cond.fieldLink RX4 72 "BallotHouseModel" "airPlace" "[I").before _ s = true := hts _ (by decide +kernel)
  have lk_75 : (Cond.fieldLink RX4 75 "BallotHouseModel" "airVote" "[I").before _ s = true := hts _ (by decide +kernel)
  have lk_78 : (Cond.fieldLink RX4 78 "BallotHouseModel" "airValue" "[J").before _ s = true := hts _ (by decide +kernel)
  have lk_81 : (Cond.fieldLink RX4 81 "BallotHouseModel" "airValues" "[J").before _ s = true := hts _ (by decide +kernel)
  have lk_97 : (Cond.fieldLink RX4 97 "BallotHouseModel" "air" "I").before _ s = true := hts _ (by decide +kernel)
  have lk_100 : (Cond.fieldLink RX4 100 "BallotHouseModel" "lost" "I").before _ s = true := hts _ (by decide +kernel)
  subst hsz
  have hI := bh_start hP hD0
  generalize hAe : va_A (bh_mw h ad c (S)) s.heap.size = A at hI ⊢
  have hA : ∀ q : Nat, s.heap.size ≤ q → A q := fun q h => by rw [← hAe]; exact Or.inr h
  clear hP hD0 hAe
  have hl := lv_entry ([.ref h, .int (nI w), .int (bb), .int (vv), .int (pp), .long (x)]) (n := 8) (Nat.le_of_ble_eq_true rfl)
  rw [lg_entry_eq]
  generalize (lg_sl ([.ref h, .int (nI w), .int (bb), .int (vv), .int (pp), .long (x)]) ++ List.replicate (8 - (lg_sl ([.ref h, .int (nI w), .int (bb), .int (vv), .int (pp), .long (x)])).length) Slot.unset).toArray = ls at hl ⊢
  have hl : lv_has ls 8 [(0, .ref h), (1, .int (nI w)), (2, .int (bb)), (3, .int (vv)), (4, .int (pp)), (5, .long (x))] := hl
  refine lv_aload_n hx hb dX4_put_0 rfl (lv_at hl 0 rfl) ?_
  refine bn_get (ci := 3) (v := .int (nI (S.1 28))) (C := RX4) (T := TX4) (N := 31) hx hb hts hinX4 hown hK hI 0 rfl rfl 28 (by decide) lk_97 rfl (rfl) dX4_put_1 ?_
  refine lv_sipush (v := nI 400) hx hb dX4_put_4 (by decide) ?_
  refine bn_cmp_ne (tgt := 21) hx hb (by omega) (by omega) dX4_put_7 (by decide) (fun c_1 => ?_) (fun c_1 => ?_)
  · refine lv_aload_n hx hb dX4_put_21 rfl (lv_at hl 0 rfl) ?_
    refine bn_get (ci := 3) (v := .ref (ad 21)) (C := RX4) (T := TX4) (N := 31) hx hb hts hinX4 hown hK hI 0 rfl rfl 21 (by decide) lk_63 rfl (rfl) dX4_put_22 ?_
    refine lv_aload_n hx hb dX4_put_25 rfl (lv_at hl 0 rfl) ?_
    refine bn_get (ci := 3) (v := .int (nI (S.1 28))) (C := RX4) (T := TX4) (N := 31) hx hb hts hinX4 hown hK hI 0 rfl rfl 28 (by decide) lk_97 rfl (rfl) dX4_put_26 ?_
    refine lv_iload_n hx hb dX4_put_29 rfl (lv_at hl 1 rfl) ?_
    refine bn_iast (n := 400) (ws' := bh_mw h ad c (bh_r S 21 (S.1 28) (nI w))) hx hb hK hI 18 0 rfl rfl (by omega) (by first | decide | omega) dX4_put_30 rfl (fun H locs hI => ?_)
    refine lv_aload_n hx hb dX4_put_31 rfl (lv_at hl 0 rfl) ?_
    refine bn_get (ci := 3) (v := .ref (ad 22)) (C := RX4) (T := TX4) (N := 31) hx hb hts hinX4 hown hK hI 0 rfl rfl 22 (by decide) lk_66 rfl (rfl) dX4_put_32 ?_
    refine lv_aload_n hx hb dX4_put_35 rfl (lv_at hl 0 rfl) ?_
    refine bn_get (ci := 3) (v := .int (nI (S.1 28))) (C := RX4) (T := TX4) (N := 31) hx hb hts hinX4 hown hK hI 0 rfl rfl 28 (by decide) lk_97 rfl (rfl) dX4_put_36 ?_
    refine lv_iload_n hx hb dX4_put_39 rfl (lv_at hl 2 rfl) ?_
    refine bn_iast (n := 400) (ws' := bh_mw h ad c (bh_r (bh_r S 21 (S.1 28) (nI w)) 22 (S.1 28) bb)) hx hb hK hI 19 0 rfl rfl (by omega) (by first | decide | omega) dX4_put_40 rfl (fun H locs hI => ?_)
    refine lv_aload_n hx hb dX4_put_41 rfl (lv_at hl 0 rfl) ?_
    refine bn_get (ci := 3) (v := .ref (ad 23)) (C := RX4) (T := TX4) (N := 31) hx hb hts hinX4 hown hK hI 0 rfl rfl 23 (by decide) lk_69 rfl (rfl) dX4_put_42 ?_
    refine lv_aload_n hx hb dX4_put_45 rfl (lv_at hl 0 rfl) ?_
    refine bn_get (ci := 3) (v := .int (nI (S.1 28))) (C := RX4) (T := TX4) (N := 31) hx hb hts hinX4 hown hK hI 0 rfl rfl 28 (by decide) lk_97 rfl (rfl) dX4_put_46 ?_
    refine lv_iload_n hx hb dX4_put_49 rfl (lv_at hl 3 rfl) ?_
    refine bn_iast (n := 400) (ws' := bh_mw h ad c (bh_r (bh_r (bh_r S 21 (S.1 28) (nI w)) 22 (S.1 28) bb) 23 (S.1 28) vv)) hx hb hK hI 20 0 rfl rfl (by omega) (by first | decide | omega) dX4_put_50 rfl (fun H locs hI => ?_)
    refine lv_aload_n hx hb dX4_put_51 rfl (lv_at hl 0 rfl) ?_
    refine bn_get (ci := 3) (v := .ref (ad 24)) (C := RX4) (T := TX4) (N := 31) hx hb hts hinX4 hown hK hI 0 rfl rfl 24 (by decide) lk_72 rfl (rfl) dX4_put_52 ?_
    refine lv_aload_n hx hb dX4_put_55 rfl (lv_at hl 0 rfl) ?_
    refine bn_get (ci := 3) (v := .int (nI (S.1 28))) (C := RX4) (T := TX4) (N := 31) hx hb hts hinX4 hown hK hI 0 rfl rfl 28 (by decide) lk_97 rfl (rfl) dX4_put_56 ?_
    refine lv_iload hx hb dX4_put_59 (lv_at hl 4 rfl) ?_
    refine bn_iast (n := 400) (ws' := bh_mw h ad c (bh_r (bh_r (bh_r (bh_r S 21 (S.1 28) (nI w)) 22 (S.1 28) bb) 23 (S.1 28) vv) 24 (S.1 28) pp)) hx hb hK hI 21 0 rfl rfl (by omega) (by first | decide | omega) dX4_put_61 rfl (fun H locs hI => ?_)
    refine lv_aload_n hx hb dX4_put_62 rfl (lv_at hl 0 rfl) ?_
    refine bn_get (ci := 3) (v := .ref (ad 26)) (C := RX4) (T := TX4) (N := 31) hx hb hts hinX4 hown hK hI 0 rfl rfl 26 (by decide) lk_78 rfl (rfl) dX4_put_63 ?_
    refine lv_aload_n hx hb dX4_put_66 rfl (lv_at hl 0 rfl) ?_
    refine bn_get (ci := 3) (v := .int (nI (S.1 28))) (C := RX4) (T := TX4) (N := 31) hx hb hts hinX4 hown hK hI 0 rfl rfl 28 (by decide) lk_97 rfl (rfl) dX4_put_67 ?_
    refine lv_lload hx hb dX4_put_70 (lv_at hl 5 rfl) ?_
    refine bn_last (n := 400) (ws' := bh_mw h ad c (bh_l (bh_r (bh_r (bh_r (bh_r S 21 (S.1 28) (nI w)) 22 (S.1 28) bb) 23 (S.1 28) vv) 24 (S.1 28) pp) 26 (S.1 28) x)) hx hb hK hI 23 1 rfl rfl (by omega) (by first | decide | omega) dX4_put_72 rfl (fun H locs hI => ?_)
    refine lv_iconst (v := nI 0) hx hb dX4_put_73 (by decide) ?_
    refine lv_istore (lv' := [(7, .int (nI 0)), (0, .ref h), (1, .int (nI w)), (2, .int (bb)), (3, .int (vv)), (4, .int (pp)), (5, .long (x))]) hx hb dX4_put_74 hl (by decide) rfl (fun ls hl => ?_)
    refine bh_loop (σ := Nat) (fun (k : Nat) H locs ls => k ≤ 8 ∧ bh_I D (bh_mw h ad c (bh_bl (bh_putA S (nI w) bb vv pp x) (8 * S.1 28) k (fun _ => nI 0) (fun _ => 0))) A s.heap H locs ∧ lv_has ls 8 [(7, .int (nI k)), (0, .ref h), (1, .int (nI w)), (2, .int (bb)), (3, .int (vv)), (4, .int (pp)), (5, .long (x))]) (fun (k : Nat) => 8 - k) (fun k H locs ls hx_2 ih_2 => ?_) 0 _ _ _ ⟨Nat.zero_le 8, (by rw [bh_bl_0]; exact hI), lv_sub hl [0, 1, 2, 3, 4, 5, 6] rfl⟩
    clear hl hI
    obtain ⟨hk, hI, hl⟩ := hx_2
    refine lv_iload hx hb dX4_put_76 (lv_at hl 0 rfl) ?_
    refine lv_bipush (v := nI 8) hx hb dX4_put_78 (by decide) ?_
    refine bn_cmp_ge (tgt := 161) hx hb (by omega) (by omega) dX4_put_80 (by decide) (fun c_3 => ?_) (fun c_3 => ?_)
    · refine lv_aload_n hx hb dX4_put_161 rfl (lv_at hl 1 rfl) ?_
      refine lv_dup hx hb dX4_put_162 rfl ?_
      refine bn_get (ci := 3) (v := .int (nI (S.1 28))) (C := RX4) (T := TX4) (N := 31) hx hb hts hinX4 hown hK hI 0 rfl rfl 28 (by decide) lk_97 rfl (rfl) dX4_put_163 ?_
      refine lv_iconst (v := nI 1) hx hb dX4_put_166 (by decide) ?_
      refine bn_iadd hx hb dX4_put_167 ?_
      refine bn_put (ci := 3) (v := .int (nI ((S.1 28) + 1))) (ty := .int) (C := RX4) (T := TX4) (N := 31) (ws' := bh_mw h ad c (bh_n (bh_bl (bh_putA S (nI w) bb vv pp x) (8 * S.1 28) k (fun _ => nI 0) (fun _ => 0)) 28 ((S.1 28) + 1))) hx hb hts hinX4 tyX4 tyX4_ok nmX4 hown hK hI 0 rfl rfl 28 (by decide) lk_97 rfl rfl rfl rfl rfl (Nat.le_of_ble_eq_true rfl) dX4_put_168 rfl (fun H locs hI => ?_)
      exact bn_retv hx hb hr hlocks hK (bh_n (bh_bl (bh_putA S (nI w) bb vv pp x) (8 * S.1 28) k (fun _ => nI 0) (fun _ => 0)) 28 ((S.1 28) + 1)) hI (by rw [show k = 8 by omega]; unfold bh_put; rw [if_neg c_1]) dX4_put_171
    · refine lv_aload_n hx hb dX4_put_83 rfl (lv_at hl 1 rfl) ?_
      refine bn_get (ci := 3) (v := .ref (ad 25)) (C := RX4) (T := TX4) (N := 31) hx hb hts hinX4 hown hK hI 0 rfl rfl 25 (by decide) lk_75 rfl (rfl) dX4_put_84 ?_
      refine lv_bipush (v := nI 8) hx hb dX4_put_87 (by decide) ?_
      refine lv_aload_n hx hb dX4_put_89 rfl (lv_at hl 1 rfl) ?_
      refine bn_get (ci := 3) (v := .int (nI (S.1 28))) (C := RX4) (T := TX4) (N := 31) hx hb hts hinX4 hown hK hI 0 rfl rfl 28 (by decide) lk_97 rfl (rfl) dX4_put_90 ?_
      refine bn_imul hx hb dX4_put_93 ?_
      refine lv_iload hx hb dX4_put_94 (lv_at hl 0 rfl) ?_
      refine bn_iadd hx hb dX4_put_96 ?_
      refine lv_iload_n hx hb dX4_put_97 rfl (lv_at hl 2 rfl) ?_
      refine lv_iconst (v := nI 3) hx hb dX4_put_98 (by decide) ?_
      refine bn_cmp_ne (tgt := 117) hx hb (by omega) (by omega) dX4_put_99 (by decide) (fun c_4 => ?_) (fun c_4 => ?_)
      · refine lv_iconst (v := nI 0) hx hb dX4_put_117 (by decide) ?_
        refine bn_iast (n := 3200) (ws' := bh_mw h ad c (bh_r (bh_bl (bh_putA S (nI w) bb vv pp x) (8 * S.1 28) k (fun _ => nI 0) (fun _ => 0)) 25 ((8 * (S.1 28)) + k) (nI 0))) hx hb hK hI 22 0 rfl rfl (by omega) (by first | decide | omega) dX4_put_118 rfl (fun H locs hI => ?_)
        refine lv_aload_n hx hb dX4_put_119 rfl (lv_at hl 1 rfl) ?_
        refine bn_get (ci := 3) (v := .ref (ad 27)) (C := RX4) (T := TX4) (N := 31) hx hb hts hinX4 hown hK hI 0 rfl rfl 27 (by decide) lk_81 rfl (rfl) dX4_put_120 ?_
        refine lv_bipush (v := nI 8) hx hb dX4_put_123 (by decide) ?_
        refine lv_aload_n hx hb dX4_put_125 rfl (lv_at hl 1 rfl) ?_
        refine bn_get (ci := 3) (v := .int (nI (S.1 28))) (C := RX4) (T := TX4) (N := 31) hx hb hts hinX4 hown hK hI 0 rfl rfl 28 (by decide) lk_97 rfl (rfl) dX4_put_126 ?_
        refine bn_imul hx hb dX4_put_129 ?_
        refine lv_iload hx hb dX4_put_130 (lv_at hl 0 rfl) ?_
        refine bn_iadd hx hb dX4_put_132 ?_
        refine lv_iload_n hx hb dX4_put_133 rfl (lv_at hl 2 rfl) ?_
        refine lv_iconst (v := nI 3) hx hb dX4_put_134 (by decide) ?_
        refine bn_cmp_ne (tgt := 153) hx hb (by omega) (by omega) dX4_put_135 (by decide) (fun c_5 => ?_) (fun c_5 => ?_)
        · refine lv_lconst (v := 0) hx hb dX4_put_153 (by decide) ?_
          refine bn_last (n := 3200) (ws' := bh_mw h ad c (bh_l (bh_r (bh_bl (bh_putA S (nI w) bb vv pp x) (8 * S.1 28) k (fun _ => nI 0) (fun _ => 0)) 25 ((8 * (S.1 28)) + k) (nI 0)) 27 ((8 * (S.1 28)) + k) 0)) hx hb hK hI 24 1 rfl rfl (by omega) (by first | decide | omega) dX4_put_154 rfl (fun H locs hI => ?_)
          refine lv_iinc (v := nI (k + 1)) (lv' := [(7, .int (nI (k + 1))), (0, .ref h), (1, .int (nI w)), (2, .int (bb)), (3, .int (vv)), (4, .int (pp)), (5, .long (x))]) hx hb dX4_put_155 hl (k := 0) rfl (nI_1 _) (by decide) rfl (fun ls hl => ?_)
          refine lv_goto (tgt := 76) hx hb dX4_put_158 (by decide) ?_
          exact ih_2 (k + 1) _ _ _ ⟨by omega, (by rw [← bh_bl_s]; exact hI), lv_sub hl [0, 1, 2, 3, 4, 5, 6] rfl⟩ (by show 8 - (k + 1) < 8 - k; omega)
        · exact absurd c_5 hw3
      · exact absurd c_4 hw3
  · refine lv_aload_n hx hb dX4_put_10 rfl (lv_at hl 0 rfl) ?_
    refine lv_dup hx hb dX4_put_11 rfl ?_
    refine bn_get (ci := 3) (v := .int (S.2.1 20)) (C := RX4) (T := TX4) (N := 31) hx hb hts hinX4 hown hK hI 0 rfl rfl 20 (by decide) lk_100 rfl (rfl) dX4_put_12 ?_
    refine lv_iconst (v := nI 1) hx hb dX4_put_15 (by decide) ?_
    refine lv_iadd hx hb dX4_put_16 ?_
    refine bn_put (ci := 3) (v := .int ((S.2.1 20) + (nI 1))) (ty := .int) (C := RX4) (T := TX4) (N := 31) (ws' := bh_mw h ad c (bh_i S 20 ((S.2.1 20) + (nI 1)))) hx hb hts hinX4 tyX4 tyX4_ok nmX4 hown hK hI 0 rfl rfl 20 (by decide) lk_100 rfl rfl rfl rfl rfl (Nat.le_of_ble_eq_true rfl) dX4_put_17 rfl (fun H locs hI => ?_)
    exact bn_retv hx hb hr hlocks hK (bh_i S 20 ((S.2.1 20) + (nI 1))) hI (by unfold bh_put; rw [if_pos c_1]) dX4_put_20
set_option maxHeartbeats 4000000 in
set_option maxRecDepth 100000 in
theorem cm_copy (l : Launch) (D : va_G) (c : bh_C) (h : Nat) (ad : Nat → Nat) (sz : Nat) (S : mS) (i j : Nat) (hi : i < 400) (hj : j < 400) (hij : i ≠ j) : Met l yX4_copy wsX4_copy ({ frames := 0, cells := 0, slots := 0, locals := 0 }) (va_Pc [.ref h, .int (nI i), .int (nI j)] (bh_prm D c (bh_mw h ad c (S)) sz)) (va_Qv (fun u : mS => u = bh_cp S i j) (fun u t => bh_post D c (bh_mw h ad c u) (va_A (bh_mw h ad c (S)) sz) t) (va_A (bh_mw h ad c (S)) sz)) 0 0 (va_A (bh_mw h ad c (S)) sz) := by
  refine Met.ofW (cc := cX4_copy) (maxL := 4) (ret := none) (by decide) rfl ?_
  intro p e s m args below meth c0 s₁ B hml hv
  obtain ⟨rfl, hsz, hP, hK, hD0⟩ := hv
  have hx := B.exec
  have hb := B.bytes
  have hr := B.returns
  have hts := atoms_spec (ws := wsX4_copy) B.pre
  have hown : s.vm.findClass RX4 = some m.cls := findClass_of_methodNamed B.named
  have hlocks := B.notSynchronized
  have hinX4 : ∀ w ∈ wsX40, w ∈ wsX4_copy := fun _ h => List.mem_cons_of_mem _ (List.mem_append_right _ h)
  have lk_63 : (Cond.fieldLink RX4 63 "BallotHouseModel" "airKind" "[I").before _ s = true := hts _ (by decide +kernel)
  have lk_66 : (Cond.fieldLink RX4 66 "BallotHouseModel" "airBallot" "[I").before _ s = true := hts _ (by decide +kernel)
  have lk_69 : (Cond.fieldLink RX4 69 "BallotHouseModel" "airVoter" "[I").before _ s = true := hts _ (by decide +kernel)
  have lk_72 : (Cond.fieldLink RX4 72 "BallotHouseModel" "airPlace" "[I").before _ s = true := hts _ (by decide +kernel)
  have lk_75 : (Cond.fieldLink RX4 75 "BallotHouseModel" "airVote" "[I").before _ s = true := hts _ (by decide +kernel)
  have lk_78 : (Cond.fieldLink RX4 78 "BallotHouseModel" "airValue" "[J").before _ s = true := hts _ (by decide +kernel)
  have lk_81 : (Cond.fieldLink RX4 81 "BallotHouseModel" "airValues" "[J").before _ s = true := hts _ (by decide +kernel)
  subst hsz
  have hI := bh_start hP hD0
  generalize hAe : va_A (bh_mw h ad c (S)) s.heap.size = A at hI ⊢
  have hA : ∀ q : Nat, s.heap.size ≤ q → A q := fun q h => by rw [← hAe]; exact Or.inr h
  clear hP hD0 hAe
  have hl := lv_entry ([.ref h, .int (nI i), .int (nI j)]) (n := 4) (Nat.le_of_ble_eq_true rfl)
  rw [lg_entry_eq]
  generalize (lg_sl ([.ref h, .int (nI i), .int (nI j)]) ++ List.replicate (4 - (lg_sl ([.ref h, .int (nI i), .int (nI j)])).length) Slot.unset).toArray = ls at hl ⊢
  have hl : lv_has ls 4 [(0, .ref h), (1, .int (nI i)), (2, .int (nI j))] := hl
  refine lv_aload_n hx hb dX4_copy_0 rfl (lv_at hl 0 rfl) ?_
  refine bn_get (ci := 3) (v := .ref (ad 21)) (C := RX4) (T := TX4) (N := 31) hx hb hts hinX4 hown hK hI 0 rfl rfl 21 (by decide) lk_63 rfl (rfl) dX4_copy_1 ?_
  refine lv_iload_n hx hb dX4_copy_4 rfl (lv_at hl 2 rfl) ?_
  refine lv_aload_n hx hb dX4_copy_5 rfl (lv_at hl 0 rfl) ?_
  refine bn_get (ci := 3) (v := .ref (ad 21)) (C := RX4) (T := TX4) (N := 31) hx hb hts hinX4 hown hK hI 0 rfl rfl 21 (by decide) lk_63 rfl (rfl) dX4_copy_6 ?_
  refine lv_iload_n hx hb dX4_copy_9 rfl (lv_at hl 1 rfl) ?_
  refine bn_iald (n := 400) (v := S.2.2.1 21 i) hx hb hK hI 18 0 rfl rfl (by omega) (by first | decide | omega) (rfl) dX4_copy_10 ?_
  refine bn_iast (n := 400) (ws' := bh_mw h ad c (bh_r S 21 j (S.2.2.1 21 i))) hx hb hK hI 18 0 rfl rfl (by omega) (by first | decide | omega) dX4_copy_11 rfl (fun H locs hI => ?_)
  refine lv_aload_n hx hb dX4_copy_12 rfl (lv_at hl 0 rfl) ?_
  refine bn_get (ci := 3) (v := .ref (ad 22)) (C := RX4) (T := TX4) (N := 31) hx hb hts hinX4 hown hK hI 0 rfl rfl 22 (by decide) lk_66 rfl (rfl) dX4_copy_13 ?_
  refine lv_iload_n hx hb dX4_copy_16 rfl (lv_at hl 2 rfl) ?_
  refine lv_aload_n hx hb dX4_copy_17 rfl (lv_at hl 0 rfl) ?_
  refine bn_get (ci := 3) (v := .ref (ad 22)) (C := RX4) (T := TX4) (N := 31) hx hb hts hinX4 hown hK hI 0 rfl rfl 22 (by decide) lk_66 rfl (rfl) dX4_copy_18 ?_
  refine lv_iload_n hx hb dX4_copy_21 rfl (lv_at hl 1 rfl) ?_
  refine bn_iald (n := 400) (v := S.2.2.1 22 i) hx hb hK hI 19 0 rfl rfl (by omega) (by first | decide | omega) (rfl) dX4_copy_22 ?_
  refine bn_iast (n := 400) (ws' := bh_mw h ad c (bh_r (bh_r S 21 j (S.2.2.1 21 i)) 22 j (S.2.2.1 22 i))) hx hb hK hI 19 0 rfl rfl (by omega) (by first | decide | omega) dX4_copy_23 rfl (fun H locs hI => ?_)
  refine lv_aload_n hx hb dX4_copy_24 rfl (lv_at hl 0 rfl) ?_
  refine bn_get (ci := 3) (v := .ref (ad 23)) (C := RX4) (T := TX4) (N := 31) hx hb hts hinX4 hown hK hI 0 rfl rfl 23 (by decide) lk_69 rfl (rfl) dX4_copy_25 ?_
  refine lv_iload_n hx hb dX4_copy_28 rfl (lv_at hl 2 rfl) ?_
  refine lv_aload_n hx hb dX4_copy_29 rfl (lv_at hl 0 rfl) ?_
  refine bn_get (ci := 3) (v := .ref (ad 23)) (C := RX4) (T := TX4) (N := 31) hx hb hts hinX4 hown hK hI 0 rfl rfl 23 (by decide) lk_69 rfl (rfl) dX4_copy_30 ?_
  refine lv_iload_n hx hb dX4_copy_33 rfl (lv_at hl 1 rfl) ?_
  refine bn_iald (n := 400) (v := S.2.2.1 23 i) hx hb hK hI 20 0 rfl rfl (by omega) (by first | decide | omega) (rfl) dX4_copy_34 ?_
  refine bn_iast (n := 400) (ws' := bh_mw h ad c (bh_r (bh_r (bh_r S 21 j (S.2.2.1 21 i)) 22 j (S.2.2.1 22 i)) 23 j (S.2.2.1 23 i))) hx hb hK hI 20 0 rfl rfl (by omega) (by first | decide | omega) dX4_copy_35 rfl (fun H locs hI => ?_)
  refine lv_aload_n hx hb dX4_copy_36 rfl (lv_at hl 0 rfl) ?_
  refine bn_get (ci := 3) (v := .ref (ad 24)) (C := RX4) (T := TX4) (N := 31) hx hb hts hinX4 hown hK hI 0 rfl rfl 24 (by decide) lk_72 rfl (rfl) dX4_copy_37 ?_
  refine lv_iload_n hx hb dX4_copy_40 rfl (lv_at hl 2 rfl) ?_
  refine lv_aload_n hx hb dX4_copy_41 rfl (lv_at hl 0 rfl) ?_
  refine bn_get (ci := 3) (v := .ref (ad 24)) (C := RX4) (T := TX4) (N := 31) hx hb hts hinX4 hown hK hI 0 rfl rfl 24 (by decide) lk_72 rfl (rfl) dX4_copy_42 ?_
  refine lv_iload_n hx hb dX4_copy_45 rfl (lv_at hl 1 rfl) ?_
  refine bn_iald (n := 400) (v := S.2.2.1 24 i) hx hb hK hI 21 0 rfl rfl (by omega) (by first | decide | omega) (rfl) dX4_copy_46 ?_
  refine bn_iast (n := 400) (ws' := bh_mw h ad c (bh_r (bh_r (bh_r (bh_r S 21 j (S.2.2.1 21 i)) 22 j (S.2.2.1 22 i)) 23 j (S.2.2.1 23 i)) 24 j (S.2.2.1 24 i))) hx hb hK hI 21 0 rfl rfl (by omega) (by first | decide | omega) dX4_copy_47 rfl (fun H locs hI => ?_)
  refine lv_aload_n hx hb dX4_copy_48 rfl (lv_at hl 0 rfl) ?_
  refine bn_get (ci := 3) (v := .ref (ad 26)) (C := RX4) (T := TX4) (N := 31) hx hb hts hinX4 hown hK hI 0 rfl rfl 26 (by decide) lk_78 rfl (rfl) dX4_copy_49 ?_
  refine lv_iload_n hx hb dX4_copy_52 rfl (lv_at hl 2 rfl) ?_
  refine lv_aload_n hx hb dX4_copy_53 rfl (lv_at hl 0 rfl) ?_
  refine bn_get (ci := 3) (v := .ref (ad 26)) (C := RX4) (T := TX4) (N := 31) hx hb hts hinX4 hown hK hI 0 rfl rfl 26 (by decide) lk_78 rfl (rfl) dX4_copy_54 ?_
  refine lv_iload_n hx hb dX4_copy_57 rfl (lv_at hl 1 rfl) ?_
  refine bn_lald (n := 400) (v := S.2.2.2 26 i) hx hb hK hI 23 1 rfl rfl (by omega) (by first | decide | omega) (rfl) dX4_copy_58 ?_
  refine bn_last (n := 400) (ws' := bh_mw h ad c (bh_l (bh_r (bh_r (bh_r (bh_r S 21 j (S.2.2.1 21 i)) 22 j (S.2.2.1 22 i)) 23 j (S.2.2.1 23 i)) 24 j (S.2.2.1 24 i)) 26 j (S.2.2.2 26 i))) hx hb hK hI 23 1 rfl rfl (by omega) (by first | decide | omega) dX4_copy_59 rfl (fun H locs hI => ?_)
  refine lv_iconst (v := nI 0) hx hb dX4_copy_60 (by decide) ?_
  refine lv_istore_n (lv' := [(3, .int (nI 0)), (0, .ref h), (1, .int (nI i)), (2, .int (nI j))]) hx hb dX4_copy_61 rfl hl (by decide) rfl (fun ls hl => ?_)
  refine bh_loop (σ := Nat) (fun (k : Nat) H locs ls => k ≤ 8 ∧ bh_I D (bh_mw h ad c (bh_bl (bh_cpA S i j) (8 * j) k (fun k => S.2.2.1 25 (8 * i + k)) (fun k => S.2.2.2 27 (8 * i + k)))) A s.heap H locs ∧ lv_has ls 4 [(3, .int (nI k)), (0, .ref h), (1, .int (nI i)), (2, .int (nI j))]) (fun (k : Nat) => 8 - k) (fun k H locs ls hx_1 ih_1 => ?_) 0 _ _ _ ⟨Nat.zero_le 8, (by rw [bh_bl_0]; exact hI), lv_sub hl [0, 1, 2, 3] rfl⟩
  clear hl hI
  obtain ⟨hk, hI, hl⟩ := hx_1
  refine lv_iload_n hx hb dX4_copy_62 rfl (lv_at hl 0 rfl) ?_
  refine lv_bipush (v := nI 8) hx hb dX4_copy_63 (by decide) ?_
  refine bn_cmp_ge (tgt := 118) hx hb (by omega) (by omega) dX4_copy_65 (by decide) (fun c_2 => ?_) (fun c_2 => ?_)
  · exact bn_retv hx hb hr hlocks hK (bh_bl (bh_cpA S i j) (8 * j) k (fun k => S.2.2.1 25 (8 * i + k)) (fun k => S.2.2.2 27 (8 * i + k))) hI (by rw [show k = 8 by omega]; rfl) dX4_copy_118
  · refine lv_aload_n hx hb dX4_copy_68 rfl (lv_at hl 1 rfl) ?_
    refine bn_get (ci := 3) (v := .ref (ad 25)) (C := RX4) (T := TX4) (N := 31) hx hb hts hinX4 hown hK hI 0 rfl rfl 25 (by decide) lk_75 rfl (rfl) dX4_copy_69 ?_
    refine lv_bipush (v := nI 8) hx hb dX4_copy_72 (by decide) ?_
    refine lv_iload_n hx hb dX4_copy_74 rfl (lv_at hl 3 rfl) ?_
    refine bn_imul hx hb dX4_copy_75 ?_
    refine lv_iload_n hx hb dX4_copy_76 rfl (lv_at hl 0 rfl) ?_
    refine bn_iadd hx hb dX4_copy_77 ?_
    refine lv_aload_n hx hb dX4_copy_78 rfl (lv_at hl 1 rfl) ?_
    refine bn_get (ci := 3) (v := .ref (ad 25)) (C := RX4) (T := TX4) (N := 31) hx hb hts hinX4 hown hK hI 0 rfl rfl 25 (by decide) lk_75 rfl (rfl) dX4_copy_79 ?_
    refine lv_bipush (v := nI 8) hx hb dX4_copy_82 (by decide) ?_
    refine lv_iload_n hx hb dX4_copy_84 rfl (lv_at hl 2 rfl) ?_
    refine bn_imul hx hb dX4_copy_85 ?_
    refine lv_iload_n hx hb dX4_copy_86 rfl (lv_at hl 0 rfl) ?_
    refine bn_iadd hx hb dX4_copy_87 ?_
    refine bn_iald (n := 3200) (v := S.2.2.1 25 (8 * i + k)) hx hb hK hI 22 0 rfl rfl (by omega) (by first | decide | omega) (if_neg (by omega)) dX4_copy_88 ?_
    refine bn_iast (n := 3200) (ws' := bh_mw h ad c (bh_r (bh_bl (bh_cpA S i j) (8 * j) k (fun k => S.2.2.1 25 (8 * i + k)) (fun k => S.2.2.2 27 (8 * i + k))) 25 ((8 * j) + k) (S.2.2.1 25 (8 * i + k)))) hx hb hK hI 22 0 rfl rfl (by omega) (by first | decide | omega) dX4_copy_89 rfl (fun H locs hI => ?_)
    refine lv_aload_n hx hb dX4_copy_90 rfl (lv_at hl 1 rfl) ?_
    refine bn_get (ci := 3) (v := .ref (ad 27)) (C := RX4) (T := TX4) (N := 31) hx hb hts hinX4 hown hK hI 0 rfl rfl 27 (by decide) lk_81 rfl (rfl) dX4_copy_91 ?_
    refine lv_bipush (v := nI 8) hx hb dX4_copy_94 (by decide) ?_
    refine lv_iload_n hx hb dX4_copy_96 rfl (lv_at hl 3 rfl) ?_
    refine bn_imul hx hb dX4_copy_97 ?_
    refine lv_iload_n hx hb dX4_copy_98 rfl (lv_at hl 0 rfl) ?_
    refine bn_iadd hx hb dX4_copy_99 ?_
    refine lv_aload_n hx hb dX4_copy_100 rfl (lv_at hl 1 rfl) ?_
    refine bn_get (ci := 3) (v := .ref (ad 27)) (C := RX4) (T := TX4) (N := 31) hx hb hts hinX4 hown hK hI 0 rfl rfl 27 (by decide) lk_81 rfl (rfl) dX4_copy_101 ?_
    refine lv_bipush (v := nI 8) hx hb dX4_copy_104 (by decide) ?_
    refine lv_iload_n hx hb dX4_copy_106 rfl (lv_at hl 2 rfl) ?_
    refine bn_imul hx hb dX4_copy_107 ?_
    refine lv_iload_n hx hb dX4_copy_108 rfl (lv_at hl 0 rfl) ?_
    refine bn_iadd hx hb dX4_copy_109 ?_
    refine bn_lald (n := 3200) (v := S.2.2.2 27 (8 * i + k)) hx hb hK hI 24 1 rfl rfl (by omega) (by first | decide | omega) (if_neg (by omega)) dX4_copy_110 ?_
    refine bn_last (n := 3200) (ws' := bh_mw h ad c (bh_l (bh_r (bh_bl (bh_cpA S i j) (8 * j) k (fun k => S.2.2.1 25 (8 * i + k)) (fun k => S.2.2.2 27 (8 * i + k))) 25 ((8 * j) + k) (S.2.2.1 25 (8 * i + k))) 27 ((8 * j) + k) (S.2.2.2 27 (8 * i + k)))) hx hb hK hI 24 1 rfl rfl (by omega) (by first | decide | omega) dX4_copy_111 rfl (fun H locs hI => ?_)
    refine lv_iinc (v := nI (k + 1)) (lv' := [(3, .int (nI (k + 1))), (0, .ref h), (1, .int (nI i)), (2, .int (nI j))]) hx hb dX4_copy_112 hl (k := 0) rfl (nI_1 _) (by decide) rfl (fun ls hl => ?_)
    refine lv_goto (tgt := 62) hx hb dX4_copy_115 (by decide) ?_
    exact ih_1 (k + 1) _ _ _ ⟨by omega, (by rw [← bh_bl_s]; exact hI), lv_sub hl [0, 1, 2, 3] rfl⟩ (by show 8 - (k + 1) < 8 - k; omega)
set_option maxHeartbeats 4000000 in
set_option maxRecDepth 100000 in
theorem cm_take (l : Launch) (D : va_G) (c : bh_C) (h : Nat) (ad : Nat → Nat) (sz : Nat) (S : mS) (k : Nat) (ha : S.1 28 ≤ 400) (hk : k < S.1 28) : Met l yX4_take wsX4_take ({ frames := 1, cells := 0, slots := 0, locals := 23 }) (va_Pc [.ref h, .int (nI k)] (bh_prm D c (bh_mw h ad c (S)) sz)) (va_Qv (fun u : mS => u = bh_take S k) (fun u t => bh_post D c (bh_mw h ad c u) (va_A (bh_mw h ad c (S)) sz) t) (va_A (bh_mw h ad c (S)) sz)) 0 0 (va_A (bh_mw h ad c (S)) sz) := by
  refine Met.ofW (cc := cX4_take) (maxL := 3) (ret := none) (by decide) rfl ?_
  intro p e s m args below meth c0 s₁ B hml hv
  obtain ⟨rfl, hsz, hP, hK, hD0⟩ := hv
  have hx := B.exec
  have hb := B.bytes
  have hr := B.returns
  have hts := atoms_spec (ws := wsX4_take) B.pre
  have hown : s.vm.findClass RX4 = some m.cls := findClass_of_methodNamed B.named
  have hlocks := B.notSynchronized
  have hinX4 : ∀ w ∈ wsX40, w ∈ wsX4_take := fun _ h => List.mem_cons_of_mem _ (List.mem_append_right _ h)
  have lk_97 : (Cond.fieldLink RX4 97 "BallotHouseModel" "air" "I").before _ s = true := hts _ (by decide +kernel)
  subst hsz
  have hI := bh_start hP hD0
  generalize hAe : va_A (bh_mw h ad c (S)) s.heap.size = A at hI ⊢
  have hA : ∀ q : Nat, s.heap.size ≤ q → A q := fun q h => by rw [← hAe]; exact Or.inr h
  clear hP hD0 hAe
  have hl := lv_entry ([.ref h, .int (nI k)]) (n := 3) (Nat.le_of_ble_eq_true rfl)
  rw [lg_entry_eq]
  generalize (lg_sl ([.ref h, .int (nI k)]) ++ List.replicate (3 - (lg_sl ([.ref h, .int (nI k)])).length) Slot.unset).toArray = ls at hl ⊢
  have hl : lv_has ls 3 [(0, .ref h), (1, .int (nI k))] := hl
  refine lv_aload_n hx hb dX4_take_0 rfl (lv_at hl 0 rfl) ?_
  refine lv_dup hx hb dX4_take_1 rfl ?_
  refine bn_get (ci := 3) (v := .int (nI (S.1 28))) (C := RX4) (T := TX4) (N := 31) hx hb hts hinX4 hown hK hI 0 rfl rfl 28 (by decide) lk_97 rfl (rfl) dX4_take_2 ?_
  refine lv_iconst (v := nI 1) hx hb dX4_take_5 (by decide) ?_
  refine bn_isub hx hb (by omega) dX4_take_6 ?_
  refine bn_put (ci := 3) (v := .int (nI ((S.1 28) - 1))) (ty := .int) (C := RX4) (T := TX4) (N := 31) (ws' := bh_mw h ad c (bh_n S 28 ((S.1 28) - 1))) hx hb hts hinX4 tyX4 tyX4_ok nmX4 hown hK hI 0 rfl rfl 28 (by decide) lk_97 rfl rfl rfl rfl rfl (Nat.le_of_ble_eq_true rfl) dX4_take_7 rfl (fun H locs hI => ?_)
  refine lv_iload_n hx hb dX4_take_10 rfl (lv_at hl 1 rfl) ?_
  refine lv_istore_n (lv' := [(2, .int (nI k)), (0, .ref h), (1, .int (nI k))]) hx hb dX4_take_11 rfl hl (by decide) rfl (fun ls hl => ?_)
  refine bh_loop (σ := Nat) (fun (d : Nat) H locs ls => d ≤ S.1 28 - 1 - k ∧ bh_I D (bh_mw h ad c (bh_tkL S k d)) A s.heap H locs ∧ lv_has ls 3 [(2, .int (nI (k + d))), (0, .ref h), (1, .int (nI k))]) (fun (d : Nat) => S.1 28 - 1 - k - d) (fun d H locs ls hx_1 ih_1 => ?_) 0 _ _ _ ⟨Nat.zero_le _, hI, lv_sub hl [0, 1, 2] rfl⟩
  clear hl hI
  obtain ⟨hd, hI, hl⟩ := hx_1
  refine lv_iload_n hx hb dX4_take_12 rfl (lv_at hl 0 rfl) ?_
  refine lv_aload_n hx hb dX4_take_13 rfl (lv_at hl 1 rfl) ?_
  refine bn_get (ci := 3) (v := .int (nI (S.1 28 - 1))) (C := RX4) (T := TX4) (N := 31) hx hb hts hinX4 hown hK hI 0 rfl rfl 28 (by decide) lk_97 rfl (by show some (Value.int (nI ((bh_tkL S k d).1 28))) = _; rw [bh_tkL_28]) dX4_take_14 ?_
  refine bn_cmp_ge (tgt := 34) hx hb (by omega) (by omega) dX4_take_17 (by decide) (fun c_2 => ?_) (fun c_2 => ?_)
  · exact bn_retv hx hb hr hlocks hK (bh_tkL S k d) hI (by show _ = bh_tkL S k (S.1 28 - 1 - k); rw [show d = S.1 28 - 1 - k by omega]) dX4_take_34
  · refine lv_aload_n hx hb dX4_take_20 rfl (lv_at hl 1 rfl) ?_
    refine lv_iload_n hx hb dX4_take_21 rfl (lv_at hl 0 rfl) ?_
    refine lv_iconst (v := nI 1) hx hb dX4_take_22 (by decide) ?_
    refine bn_iadd hx hb dX4_take_23 ?_
    refine lv_iload_n hx hb dX4_take_24 rfl (lv_at hl 0 rfl) ?_
    refine bn_muv (bn_muV (As := [.int (nI ((k + d) + 1)), .int (nI (k + d))]) (rest := []) ⟨hx, hb, hml, hown, hts⟩ (cm_copy l D c h ad _ (bh_tkL S k d) (k + d + 1) (k + d) (by omega) (by omega) (by omega)) (cwV 2 hts gX4_take_X4_copy rfl rfl rfl (by decide +kernel) ⟨Nat.le_of_ble_eq_true rfl, Nat.le_of_ble_eq_true rfl⟩) hK hI 0 3 rfl rfl rfl rfl hl.1 (Nat.le_of_ble_eq_true rfl) dX4_take_25 ⟨Nat.le_of_ble_eq_true rfl, Nat.le_of_ble_eq_true rfl⟩) hI hA (fun u_3 H locs eu_3 hI => ?_)
    subst eu_3
    refine lv_iinc (v := nI (k + d + 1)) (lv' := [(2, .int (nI (k + d + 1))), (0, .ref h), (1, .int (nI k))]) hx hb dX4_take_28 hl (k := 0) rfl (nI_1 _) (by decide) rfl (fun ls hl => ?_)
    refine lv_goto (tgt := 12) hx hb dX4_take_31 (by decide) ?_
    exact ih_1 (d + 1) _ _ _ ⟨by omega, hI, lv_sub hl [0, 1, 2] rfl⟩ (by show S.1 28 - 1 - k - (d + 1) < S.1 28 - 1 - k - d; omega)
