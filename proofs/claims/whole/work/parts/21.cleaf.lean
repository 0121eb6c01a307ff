set_option maxHeartbeats 4000000 in
set_option maxRecDepth 100000 in
theorem cc_bitCount (l : Launch) (i : Int32) : Met l yJ6_bitCount_0f7a4 wsJ6_bitCount_0f7a4 ({ frames := 0, cells := 0, slots := 0, locals := 0 }) (va_Pc [.int (i)] (fun _ => True)) (vp_Si (fun r => r = bh_bc i)) 0 0 (fun _ => False) := by
  refine Met.ofW (cc := cJ6_bitCount_0f7a4) (maxL := 1) (ret := (some .int)) (by decide) rfl ?_
  intro p e s m args below meth c0 s₁ B hml hv
  obtain ⟨rfl, -⟩ := hv
  have hx := B.exec
  have hb := B.bytes
  have hr := B.returns
  have hts := atoms_spec (ws := wsJ6_bitCount_0f7a4) B.pre
  have hown : s.vm.findClass RJ6 = some m.cls := findClass_of_methodNamed B.named
  have hlocks := B.notSynchronized
  have hl := lv_entry ([.int (i)]) (n := 1) (Nat.le_of_ble_eq_true rfl)
  rw [lg_entry_eq]
  generalize (lg_sl ([.int (i)]) ++ List.replicate (1 - (lg_sl ([.int (i)])).length) Slot.unset).toArray = ls at hl ⊢
  have hl : lv_has ls 1 [(0, .int (i))] := hl
  refine lv_iload_n hx hb dJ6_bitCount_0f7a4_0 rfl (lv_at hl 0 rfl) ?_
  refine lv_iload_n hx hb dJ6_bitCount_0f7a4_1 rfl (lv_at hl 0 rfl) ?_
  refine lv_iconst (v := nI 1) hx hb dJ6_bitCount_0f7a4_2 (by decide) ?_
  refine lv_iushr (v := (i.toUInt32 >>> ((nI 1).toUInt32 &&& Int32.toUInt32 31)).toInt32) hx hb dJ6_bitCount_0f7a4_3 rfl ?_
  refine lv_ldcw (v := 1431655765) hx hb hown (hts (.constant RJ6 265 1431655765) (by decide +kernel)) dJ6_bitCount_0f7a4_4 ?_
  refine lv_iand hx hb dJ6_bitCount_0f7a4_7 ?_
  refine lv_isub hx hb dJ6_bitCount_0f7a4_8 ?_
  refine lv_istore_n (lv' := [(0, .int (i - (((i.toUInt32 >>> ((nI 1).toUInt32 &&& Int32.toUInt32 31)).toInt32) &&& 1431655765)))]) hx hb dJ6_bitCount_0f7a4_9 rfl hl (by decide) rfl (fun ls hl => ?_)
  refine lv_iload_n hx hb dJ6_bitCount_0f7a4_10 rfl (lv_at hl 0 rfl) ?_
  refine lv_ldcw (v := 858993459) hx hb hown (hts (.constant RJ6 266 858993459) (by decide +kernel)) dJ6_bitCount_0f7a4_11 ?_
  refine lv_iand hx hb dJ6_bitCount_0f7a4_14 ?_
  refine lv_iload_n hx hb dJ6_bitCount_0f7a4_15 rfl (lv_at hl 0 rfl) ?_
  refine lv_iconst (v := nI 2) hx hb dJ6_bitCount_0f7a4_16 (by decide) ?_
  refine lv_iushr (v := ((i - (((i.toUInt32 >>> ((nI 1).toUInt32 &&& Int32.toUInt32 31)).toInt32) &&& 1431655765)).toUInt32 >>> ((nI 2).toUInt32 &&& Int32.toUInt32 31)).toInt32) hx hb dJ6_bitCount_0f7a4_17 rfl ?_
  refine lv_ldcw (v := 858993459) hx hb hown (hts (.constant RJ6 266 858993459) (by decide +kernel)) dJ6_bitCount_0f7a4_18 ?_
  refine lv_iand hx hb dJ6_bitCount_0f7a4_21 ?_
  refine lv_iadd hx hb dJ6_bitCount_0f7a4_22 ?_
  refine lv_istore_n (lv' := [(0, .int (((i - (((i.toUInt32 >>> ((nI 1).toUInt32 &&& Int32.toUInt32 31)).toInt32) &&& 1431655765)) &&& 858993459) + ((((i - (((i.toUInt32 >>> ((nI 1).toUInt32 &&& Int32.toUInt32 31)).toInt32) &&& 1431655765)).toUInt32 >>> ((nI 2).toUInt32 &&& Int32.toUInt32 31)).toInt32) &&& 858993459)))]) hx hb dJ6_bitCount_0f7a4_23 rfl hl (by decide) rfl (fun ls hl => ?_)
  refine lv_iload_n hx hb dJ6_bitCount_0f7a4_24 rfl (lv_at hl 0 rfl) ?_
  refine lv_iload_n hx hb dJ6_bitCount_0f7a4_25 rfl (lv_at hl 0 rfl) ?_
  refine lv_iconst (v := nI 4) hx hb dJ6_bitCount_0f7a4_26 (by decide) ?_
  refine lv_iushr (v := ((((i - (((i.toUInt32 >>> ((nI 1).toUInt32 &&& Int32.toUInt32 31)).toInt32) &&& 1431655765)) &&& 858993459) + ((((i - (((i.toUInt32 >>> ((nI 1).toUInt32 &&& Int32.toUInt32 31)).toInt32) &&& 1431655765)).toUInt32 >>> ((nI 2).toUInt32 &&& Int32.toUInt32 31)).toInt32) &&& 858993459)).toUInt32 >>> ((nI 4).toUInt32 &&& Int32.toUInt32 31)).toInt32) hx hb dJ6_bitCount_0f7a4_27 rfl ?_
  refine lv_iadd hx hb dJ6_bitCount_0f7a4_28 ?_
  refine lv_ldcw (v := 252645135) hx hb hown (hts (.constant RJ6 267 252645135) (by decide +kernel)) dJ6_bitCount_0f7a4_29 ?_
  refine lv_iand hx hb dJ6_bitCount_0f7a4_32 ?_
  refine lv_istore_n (lv' := [(0, .int (((((i - (((i.toUInt32 >>> ((nI 1).toUInt32 &&& Int32.toUInt32 31)).toInt32) &&& 1431655765)) &&& 858993459) + ((((i - (((i.toUInt32 >>> ((nI 1).toUInt32 &&& Int32.toUInt32 31)).toInt32) &&& 1431655765)).toUInt32 >>> ((nI 2).toUInt32 &&& Int32.toUInt32 31)).toInt32) &&& 858993459)) + (((((i - (((i.toUInt32 >>> ((nI 1).toUInt32 &&& Int32.toUInt32 31)).toInt32) &&& 1431655765)) &&& 858993459) + ((((i - (((i.toUInt32 >>> ((nI 1).toUInt32 &&& Int32.toUInt32 31)).toInt32) &&& 1431655765)).toUInt32 >>> ((nI 2).toUInt32 &&& Int32.toUInt32 31)).toInt32) &&& 858993459)).toUInt32 >>> ((nI 4).toUInt32 &&& Int32.toUInt32 31)).toInt32)) &&& 252645135))]) hx hb dJ6_bitCount_0f7a4_33 rfl hl (by decide) rfl (fun ls hl => ?_)
  refine lv_iload_n hx hb dJ6_bitCount_0f7a4_34 rfl (lv_at hl 0 rfl) ?_
  refine lv_iload_n hx hb dJ6_bitCount_0f7a4_35 rfl (lv_at hl 0 rfl) ?_
  refine lv_bipush (v := nI 8) hx hb dJ6_bitCount_0f7a4_36 (by decide) ?_
  refine lv_iushr (v := ((((((i - (((i.toUInt32 >>> ((nI 1).toUInt32 &&& Int32.toUInt32 31)).toInt32) &&& 1431655765)) &&& 858993459) + ((((i - (((i.toUInt32 >>> ((nI 1).toUInt32 &&& Int32.toUInt32 31)).toInt32) &&& 1431655765)).toUInt32 >>> ((nI 2).toUInt32 &&& Int32.toUInt32 31)).toInt32) &&& 858993459)) + (((((i - (((i.toUInt32 >>> ((nI 1).toUInt32 &&& Int32.toUInt32 31)).toInt32) &&& 1431655765)) &&& 858993459) + ((((i - (((i.toUInt32 >>> ((nI 1).toUInt32 &&& Int32.toUInt32 31)).toInt32) &&& 1431655765)).toUInt32 >>> ((nI 2).toUInt32 &&& Int32.toUInt32 31)).toInt32) &&& 858993459)).toUInt32 >>> ((nI 4).toUInt32 &&& Int32.toUInt32 31)).toInt32)) &&& 252645135).toUInt32 >>> ((nI 8).toUInt32 &&& Int32.toUInt32 31)).toInt32) hx hb dJ6_bitCount_0f7a4_38 rfl ?_
  refine lv_iadd hx hb dJ6_bitCount_0f7a4_39 ?_
  refine lv_istore_n (lv' := [(0, .int ((((((i - (((i.toUInt32 >>> ((nI 1).toUInt32 &&& Int32.toUInt32 31)).toInt32) &&& 1431655765)) &&& 858993459) + ((((i - (((i.toUInt32 >>> ((nI 1).toUInt32 &&& Int32.toUInt32 31)).toInt32) &&& 1431655765)).toUInt32 >>> ((nI 2).toUInt32 &&& Int32.toUInt32 31)).toInt32) &&& 858993459)) + (((((i - (((i.toUInt32 >>> ((nI 1).toUInt32 &&& Int32.toUInt32 31)).toInt32) &&& 1431655765)) &&& 858993459) + ((((i - (((i.toUInt32 >>> ((nI 1).toUInt32 &&& Int32.toUInt32 31)).toInt32) &&& 1431655765)).toUInt32 >>> ((nI 2).toUInt32 &&& Int32.toUInt32 31)).toInt32) &&& 858993459)).toUInt32 >>> ((nI 4).toUInt32 &&& Int32.toUInt32 31)).toInt32)) &&& 252645135) + (((((((i - (((i.toUInt32 >>> ((nI 1).toUInt32 &&& Int32.toUInt32 31)).toInt32) &&& 1431655765)) &&& 858993459) + ((((i - (((i.toUInt32 >>> ((nI 1).toUInt32 &&& Int32.toUInt32 31)).toInt32) &&& 1431655765)).toUInt32 >>> ((nI 2).toUInt32 &&& Int32.toUInt32 31)).toInt32) &&& 858993459)) + (((((i - (((i.toUInt32 >>> ((nI 1).toUInt32 &&& Int32.toUInt32 31)).toInt32) &&& 1431655765)) &&& 858993459) + ((((i - (((i.toUInt32 >>> ((nI 1).toUInt32 &&& Int32.toUInt32 31)).toInt32) &&& 1431655765)).toUInt32 >>> ((nI 2).toUInt32 &&& Int32.toUInt32 31)).toInt32) &&& 858993459)).toUInt32 >>> ((nI 4).toUInt32 &&& Int32.toUInt32 31)).toInt32)) &&& 252645135).toUInt32 >>> ((nI 8).toUInt32 &&& Int32.toUInt32 31)).toInt32)))]) hx hb dJ6_bitCount_0f7a4_40 rfl hl (by decide) rfl (fun ls hl => ?_)
  refine lv_iload_n hx hb dJ6_bitCount_0f7a4_41 rfl (lv_at hl 0 rfl) ?_
  refine lv_iload_n hx hb dJ6_bitCount_0f7a4_42 rfl (lv_at hl 0 rfl) ?_
  refine lv_bipush (v := nI 16) hx hb dJ6_bitCount_0f7a4_43 (by decide) ?_
  refine lv_iushr (v := (((((((i - (((i.toUInt32 >>> ((nI 1).toUInt32 &&& Int32.toUInt32 31)).toInt32) &&& 1431655765)) &&& 858993459) + ((((i - (((i.toUInt32 >>> ((nI 1).toUInt32 &&& Int32.toUInt32 31)).toInt32) &&& 1431655765)).toUInt32 >>> ((nI 2).toUInt32 &&& Int32.toUInt32 31)).toInt32) &&& 858993459)) + (((((i - (((i.toUInt32 >>> ((nI 1).toUInt32 &&& Int32.toUInt32 31)).toInt32) &&& 1431655765)) &&& 858993459) + ((((i - (((i.toUInt32 >>> ((nI 1).toUInt32 &&& Int32.toUInt32 31)).toInt32) &&& 1431655765)).toUInt32 >>> ((nI 2).toUInt32 &&& Int32.toUInt32 31)).toInt32) &&& 858993459)).toUInt32 >>> ((nI 4).toUInt32 &&& Int32.toUInt32 31)).toInt32)) &&& 252645135) + (((((((i - (((i.toUInt32 >>> ((nI 1).toUInt32 &&& Int32.toUInt32 31)).toInt32) &&& 1431655765)) &&& 858993459) + ((((i - (((i.toUInt32 >>> ((nI 1).toUInt32 &&& Int32.toUInt32 31)).toInt32) &&& 1431655765)).toUInt32 >>> ((nI 2).toUInt32 &&& Int32.toUInt32 31)).toInt32) &&& 858993459)) + (((((i - (((i.toUInt32 >>> ((nI 1).toUInt32 &&& Int32.toUInt32 31)).toInt32) &&& 1431655765)) &&& 858993459) + ((((i - (((i.toUInt32 >>> ((nI 1).toUInt32 &&& Int32.toUInt32 31)).toInt32) &&& 1431655765)).toUInt32 >>> ((nI 2).toUInt32 &&& Int32.toUInt32 31)).toInt32) &&& 858993459)).toUInt32 >>> ((nI 4).toUInt32 &&& Int32.toUInt32 31)).toInt32)) &&& 252645135).toUInt32 >>> ((nI 8).toUInt32 &&& Int32.toUInt32 31)).toInt32)).toUInt32 >>> ((nI 16).toUInt32 &&& Int32.toUInt32 31)).toInt32) hx hb dJ6_bitCount_0f7a4_45 rfl ?_
  refine lv_iadd hx hb dJ6_bitCount_0f7a4_46 ?_
  refine lv_istore_n (lv' := [(0, .int (((((((i - (((i.toUInt32 >>> ((nI 1).toUInt32 &&& Int32.toUInt32 31)).toInt32) &&& 1431655765)) &&& 858993459) + ((((i - (((i.toUInt32 >>> ((nI 1).toUInt32 &&& Int32.toUInt32 31)).toInt32) &&& 1431655765)).toUInt32 >>> ((nI 2).toUInt32 &&& Int32.toUInt32 31)).toInt32) &&& 858993459)) + (((((i - (((i.toUInt32 >>> ((nI 1).toUInt32 &&& Int32.toUInt32 31)).toInt32) &&& 1431655765)) &&& 858993459) + ((((i - (((i.toUInt32 >>> ((nI 1).toUInt32 &&& Int32.toUInt32 31)).toInt32) &&& 1431655765)).toUInt32 >>> ((nI 2).toUInt32 &&& Int32.toUInt32 31)).toInt32) &&& 858993459)).toUInt32 >>> ((nI 4).toUInt32 &&& Int32.toUInt32 31)).toInt32)) &&& 252645135) + (((((((i - (((i.toUInt32 >>> ((nI 1).toUInt32 &&& Int32.toUInt32 31)).toInt32) &&& 1431655765)) &&& 858993459) + ((((i - (((i.toUInt32 >>> ((nI 1).toUInt32 &&& Int32.toUInt32 31)).toInt32) &&& 1431655765)).toUInt32 >>> ((nI 2).toUInt32 &&& Int32.toUInt32 31)).toInt32) &&& 858993459)) + (((((i - (((i.toUInt32 >>> ((nI 1).toUInt32 &&& Int32.toUInt32 31)).toInt32) &&& 1431655765)) &&& 858993459) + ((((i - (((i.toUInt32 >>> ((nI 1).toUInt32 &&& Int32.toUInt32 31)).toInt32) &&& 1431655765)).toUInt32 >>> ((nI 2).toUInt32 &&& Int32.toUInt32 31)).toInt32) &&& 858993459)).toUInt32 >>> ((nI 4).toUInt32 &&& Int32.toUInt32 31)).toInt32)) &&& 252645135).toUInt32 >>> ((nI 8).toUInt32 &&& Int32.toUInt32 31)).toInt32)) + ((((((((i - (((i.toUInt32 >>> ((nI 1).toUInt32 &&& Int32.toUInt32 31)).toInt32) &&& 1431655765)) &&& 858993459) + ((((i - (((i.toUInt32 >>> ((nI 1).toUInt32 &&& Int32.toUInt32 31)).toInt32) &&& 1431655765)).toUInt32 >>> ((nI 2).toUInt32 &&& Int32.toUInt32 31)).toInt32) &&& 858993459)) + (((((i - (((i.toUInt32 >>> ((nI 1).toUInt32 &&& Int32.toUInt32 31)).toInt32) &&& 1431655765)) &&& 858993459) + ((((i - (((i.toUInt32 >>> ((nI 1).toUInt32 &&& Int32.toUInt32 31)).toInt32) &&& 1431655765)).toUInt32 >>> ((nI 2).toUInt32 &&& Int32.toUInt32 31)).toInt32) &&& 858993459)).toUInt32 >>> ((nI 4).toUInt32 &&& Int32.toUInt32 31)).toInt32)) &&& 252645135) + (((((((i - (((i.toUInt32 >>> ((nI 1).toUInt32 &&& Int32.toUInt32 31)).toInt32) &&& 1431655765)) &&& 858993459) + ((((i - (((i.toUInt32 >>> ((nI 1).toUInt32 &&& Int32.toUInt32 31)).toInt32) &&& 1431655765)).toUInt32 >>> ((nI 2).toUInt32 &&& Int32.toUInt32 31)).toInt32) &&& 858993459)) + (((((i - (((i.toUInt32 >>> ((nI 1).toUInt32 &&& Int32.toUInt32 31)).toInt32) &&& 1431655765)) &&& 858993459) + ((((i - (((i.toUInt32 >>> ((nI 1).toUInt32 &&& Int32.toUInt32 31)).toInt32) &&& 1431655765)).toUInt32 >>> ((nI 2).toUInt32 &&& Int32.toUInt32 31)).toInt32) &&& 858993459)).toUInt32 >>> ((nI 4).toUInt32 &&& Int32.toUInt32 31)).toInt32)) &&& 252645135).toUInt32 >>> ((nI 8).toUInt32 &&& Int32.toUInt32 31)).toInt32)).toUInt32 >>> ((nI 16).toUInt32 &&& Int32.toUInt32 31)).toInt32)))]) hx hb dJ6_bitCount_0f7a4_47 rfl hl (by decide) rfl (fun ls hl => ?_)
  refine lv_iload_n hx hb dJ6_bitCount_0f7a4_48 rfl (lv_at hl 0 rfl) ?_
  refine lv_bipush (v := nI 63) hx hb dJ6_bitCount_0f7a4_49 (by decide) ?_
  refine lv_iand hx hb dJ6_bitCount_0f7a4_51 ?_
  exact bn_roti hx hb hr hlocks (rfl) dJ6_bitCount_0f7a4_52
set_option maxHeartbeats 4000000 in
set_option maxRecDepth 100000 in
theorem cc_isPlace (l : Launch) (x : Int32) : Met l yX3_isPlace wsX3_isPlace ({ frames := 0, cells := 0, slots := 0, locals := 0 }) (va_Pc [.int (x)] (fun _ => True)) (vp_Si (fun r => r = bh_s (bh_ix x 8))) 0 0 (fun _ => False) := by
  refine Met.ofW (cc := cX3_isPlace) (maxL := 1) (ret := (some .boolean)) (by decide) rfl ?_
  intro p e s m args below meth c0 s₁ B hml hv
  obtain ⟨rfl, -⟩ := hv
  have hx := B.exec
  have hb := B.bytes
  have hr := B.returns
  have hts := atoms_spec (ws := wsX3_isPlace) B.pre
  have hown : s.vm.findClass RX3 = some m.cls := findClass_of_methodNamed B.named
  have hlocks := B.notSynchronized
  have hl := lv_entry ([.int (x)]) (n := 1) (Nat.le_of_ble_eq_true rfl)
  rw [lg_entry_eq]
  generalize (lg_sl ([.int (x)]) ++ List.replicate (1 - (lg_sl ([.int (x)])).length) Slot.unset).toArray = ls at hl ⊢
  have hl : lv_has ls 1 [(0, .int (x))] := hl
  refine lv_iload_n hx hb dX3_isPlace_0 rfl (lv_at hl 0 rfl) ?_
  refine lv_if_lt (tgt := 14) hx hb dX3_isPlace_1 (by decide) (fun c_1 => ?_) (fun c_1 => ?_)
  · refine lv_iconst (v := nI 0) hx hb dX3_isPlace_14 (by decide) ?_
    exact bn_rotz hx hb hr hlocks ((by have q0 := c_1; simp only [bh_ltI, bh_leI, bh_t0, nI_toInt (show 8 < 2 ^ 31 by omega)] at q0; unfold bh_ix; split <;> first | rfl | (exfalso; omega))) (by decide) dX3_isPlace_15
  · refine lv_iload_n hx hb dX3_isPlace_4 rfl (lv_at hl 0 rfl) ?_
    refine lv_bipush (v := nI 8) hx hb dX3_isPlace_5 (by decide) ?_
    refine lv_icmp_ge (tgt := 14) hx hb dX3_isPlace_7 (by decide) (fun c_2 => ?_) (fun c_2 => ?_)
    · refine lv_iconst (v := nI 0) hx hb dX3_isPlace_14 (by decide) ?_
      exact bn_rotz hx hb hr hlocks ((by have q0 := c_1; have q1 := c_2; simp only [bh_ltI, bh_leI, bh_t0, nI_toInt (show 8 < 2 ^ 31 by omega)] at q0 q1; unfold bh_ix; split <;> first | rfl | (exfalso; omega))) (by decide) dX3_isPlace_15
    · refine lv_iconst (v := nI 1) hx hb dX3_isPlace_10 (by decide) ?_
      refine lv_goto (tgt := 15) hx hb dX3_isPlace_11 (by decide) ?_
      exact bn_rotz hx hb hr hlocks ((by have q0 := c_1; have q1 := c_2; simp only [bh_ltI, bh_leI, bh_t0, nI_toInt (show 8 < 2 ^ 31 by omega)] at q0 q1; unfold bh_ix; split <;> first | rfl | (exfalso; omega))) (by decide) dX3_isPlace_15
set_option maxHeartbeats 4000000 in
set_option maxRecDepth 100000 in
theorem cc_isVoter (l : Launch) (D : va_G) (c : bh_C) (h : Nat) (ad : Nat → Nat) (ba : Nat → Nat → Nat) (nv km : Nat) (C : cS) (x : Int32) (hn : nv ≤ 7) : Met l yX3_isVoter wsX3_isVoter ({ frames := 0, cells := 0, slots := 0, locals := 0 }) (va_Pc [.ref h, .int (x)] (bh_pre D c (bh_cw h ad ba c nv km (C)))) (vp_Si (fun r => r = bh_s (bh_ix x nv))) 0 0 (fun _ => False) := by
  refine Met.ofW (cc := cX3_isVoter) (maxL := 2) (ret := (some .boolean)) (by decide) rfl ?_
  intro p e s m args below meth c0 s₁ B hml hv
  obtain ⟨rfl, hP, hK, hD0⟩ := hv
  have hx := B.exec
  have hb := B.bytes
  have hr := B.returns
  have hts := atoms_spec (ws := wsX3_isVoter) B.pre
  have hown : s.vm.findClass RX3 = some m.cls := findClass_of_methodNamed B.named
  have hlocks := B.notSynchronized
  have hinX3 : ∀ w ∈ wsX30, w ∈ wsX3_isVoter := fun _ h => List.mem_cons_of_mem _ (List.mem_append_right _ h)
  have lk_18 : (Cond.fieldLink RX3 18 "BallotHouse" "voters" "I").before _ s = true := hts _ (by decide +kernel)
  have hI : bh_I D (bh_cw h ad ba c nv km (C)) (fun _ => True) s.heap s.heap [] := ⟨hP, hD0, va_S.rf⟩
  have hl := lv_entry ([.ref h, .int (x)]) (n := 2) (Nat.le_of_ble_eq_true rfl)
  rw [lg_entry_eq]
  generalize (lg_sl ([.ref h, .int (x)]) ++ List.replicate (2 - (lg_sl ([.ref h, .int (x)])).length) Slot.unset).toArray = ls at hl ⊢
  have hl : lv_has ls 2 [(0, .ref h), (1, .int (x))] := hl
  refine lv_iload_n hx hb dX3_isVoter_0 rfl (lv_at hl 1 rfl) ?_
  refine lv_if_lt (tgt := 16) hx hb dX3_isVoter_1 (by decide) (fun c_1 => ?_) (fun c_1 => ?_)
  · refine lv_iconst (v := nI 0) hx hb dX3_isVoter_16 (by decide) ?_
    exact bn_rotz hx hb hr hlocks ((by have q0 := c_1; simp only [bh_ltI, bh_leI, bh_t0, nI_toInt (show nv < 2 ^ 31 by omega)] at q0; unfold bh_ix; split <;> first | rfl | (exfalso; omega))) (by decide) dX3_isVoter_17
  · refine lv_iload_n hx hb dX3_isVoter_4 rfl (lv_at hl 1 rfl) ?_
    refine lv_aload_n hx hb dX3_isVoter_5 rfl (lv_at hl 0 rfl) ?_
    refine bn_get (ci := 2) (v := .int (nI nv)) (C := RX3) (T := TX3) (N := 8) hx hb hts hinX3 hown hK hI 0 rfl rfl 0 (by decide) lk_18 rfl (rfl) dX3_isVoter_6 ?_
    refine lv_icmp_ge (tgt := 16) hx hb dX3_isVoter_9 (by decide) (fun c_2 => ?_) (fun c_2 => ?_)
    · refine lv_iconst (v := nI 0) hx hb dX3_isVoter_16 (by decide) ?_
      exact bn_rotz hx hb hr hlocks ((by have q0 := c_1; have q1 := c_2; simp only [bh_ltI, bh_leI, bh_t0, nI_toInt (show nv < 2 ^ 31 by omega)] at q0 q1; unfold bh_ix; split <;> first | rfl | (exfalso; omega))) (by decide) dX3_isVoter_17
    · refine lv_iconst (v := nI 1) hx hb dX3_isVoter_12 (by decide) ?_
      refine lv_goto (tgt := 17) hx hb dX3_isVoter_13 (by decide) ?_
      exact bn_rotz hx hb hr hlocks ((by have q0 := c_1; have q1 := c_2; simp only [bh_ltI, bh_leI, bh_t0, nI_toInt (show nv < 2 ^ 31 by omega)] at q0 q1; unfold bh_ix; split <;> first | rfl | (exfalso; omega))) (by decide) dX3_isVoter_17
set_option maxHeartbeats 4000000 in
set_option maxRecDepth 100000 in
theorem cc_has (l : Launch) (D : va_G) (c : bh_C) (h : Nat) (ad : Nat → Nat) (ba : Nat → Nat → Nat) (nv km : Nat) (C : cS) (x : Int32) (ha : C.1.1 15 ≤ 400) : Met l yX0_has wsX0_has ({ frames := 0, cells := 0, slots := 0, locals := 0 }) (va_Pc [.ref (ad 7), .int (x)] (bh_pre D c (bh_cw h ad ba c nv km (C)))) (vp_Si (fun r => r = bh_s (bh_ix x (C.1.1 15)))) 0 0 (fun _ => False) := by
  refine Met.ofW (cc := cX0_has) (maxL := 2) (ret := (some .boolean)) (by decide) rfl ?_
  intro p e s m args below meth c0 s₁ B hml hv
  obtain ⟨rfl, hP, hK, hD0⟩ := hv
  have hx := B.exec
  have hb := B.bytes
  have hr := B.returns
  have hts := atoms_spec (ws := wsX0_has) B.pre
  have hown : s.vm.findClass RX0 = some m.cls := findClass_of_methodNamed B.named
  have hlocks := B.notSynchronized
  have hinX0 : ∀ w ∈ wsX00, w ∈ wsX0_has := fun _ h => List.mem_cons_of_mem _ (List.mem_append_right _ h)
  have lk_28 : (Cond.fieldLink RX0 28 "BallotHouse$Air" "size" "I").before _ s = true := hts _ (by decide +kernel)
  have hI : bh_I D (bh_cw h ad ba c nv km (C)) (fun _ => True) s.heap s.heap [] := ⟨hP, hD0, va_S.rf⟩
  have hl := lv_entry ([.ref (ad 7), .int (x)]) (n := 2) (Nat.le_of_ble_eq_true rfl)
  rw [lg_entry_eq]
  generalize (lg_sl ([.ref (ad 7), .int (x)]) ++ List.replicate (2 - (lg_sl ([.ref (ad 7), .int (x)])).length) Slot.unset).toArray = ls at hl ⊢
  have hl : lv_has ls 2 [(0, .ref (ad 7)), (1, .int (x))] := hl
  refine lv_iload_n hx hb dX0_has_0 rfl (lv_at hl 1 rfl) ?_
  refine lv_if_lt (tgt := 16) hx hb dX0_has_1 (by decide) (fun c_1 => ?_) (fun c_1 => ?_)
  · refine lv_iconst (v := nI 0) hx hb dX0_has_16 (by decide) ?_
    exact bn_rotz hx hb hr hlocks ((by have q0 := c_1; simp only [bh_ltI, bh_leI, bh_t0, nI_toInt (show C.1.1 15 < 2 ^ 31 by omega)] at q0; unfold bh_ix; split <;> first | rfl | (exfalso; omega))) (by decide) dX0_has_17
  · refine lv_iload_n hx hb dX0_has_4 rfl (lv_at hl 1 rfl) ?_
    refine lv_aload_n hx hb dX0_has_5 rfl (lv_at hl 0 rfl) ?_
    refine bn_get (ci := 0) (v := .int (nI (C.1.1 15))) (C := RX0) (T := TX0) (N := 7) hx hb hts hinX0 hown hK hI 4 rfl rfl 5 (by decide) lk_28 rfl (rfl) dX0_has_6 ?_
    refine lv_icmp_ge (tgt := 16) hx hb dX0_has_9 (by decide) (fun c_2 => ?_) (fun c_2 => ?_)
    · refine lv_iconst (v := nI 0) hx hb dX0_has_16 (by decide) ?_
      exact bn_rotz hx hb hr hlocks ((by have q0 := c_1; have q1 := c_2; simp only [bh_ltI, bh_leI, bh_t0, nI_toInt (show C.1.1 15 < 2 ^ 31 by omega)] at q0 q1; unfold bh_ix; split <;> first | rfl | (exfalso; omega))) (by decide) dX0_has_17
    · refine lv_iconst (v := nI 1) hx hb dX0_has_12 (by decide) ?_
      refine lv_goto (tgt := 17) hx hb dX0_has_13 (by decide) ?_
      exact bn_rotz hx hb hr hlocks ((by have q0 := c_1; have q1 := c_2; simp only [bh_ltI, bh_leI, bh_t0, nI_toInt (show C.1.1 15 < 2 ^ 31 by omega)] at q0 q1; unfold bh_ix; split <;> first | rfl | (exfalso; omega))) (by decide) dX0_has_17
set_option maxHeartbeats 4000000 in
set_option maxRecDepth 100000 in
theorem cc_at (l : Launch) (x : Int64) (q : Nat) : Met l yX2_at wsX2_at ({ frames := 0, cells := 0, slots := 0, locals := 0 }) (va_Pc [.long (x), .int (nI q)] (fun _ => True)) (vp_Si (fun r => r = bh_at x q)) 0 0 (fun _ => False) := by
  refine Met.ofW (cc := cX2_at) (maxL := 3) (ret := (some .int)) (by decide) rfl ?_
  intro p e s m args below meth c0 s₁ B hml hv
  obtain ⟨rfl, -⟩ := hv
  have hx := B.exec
  have hb := B.bytes
  have hr := B.returns
  have hts := atoms_spec (ws := wsX2_at) B.pre
  have hown : s.vm.findClass RX2 = some m.cls := findClass_of_methodNamed B.named
  have hlocks := B.notSynchronized
  have hl := lv_entry ([.long (x), .int (nI q)]) (n := 3) (Nat.le_of_ble_eq_true rfl)
  rw [lg_entry_eq]
  generalize (lg_sl ([.long (x), .int (nI q)]) ++ List.replicate (3 - (lg_sl ([.long (x), .int (nI q)])).length) Slot.unset).toArray = ls at hl ⊢
  have hl : lv_has ls 3 [(0, .long (x)), (2, .int (nI q))] := hl
  refine lv_lload_n hx hb dX2_at_0 rfl (lv_at hl 0 rfl) ?_
  refine lv_iload_n hx hb dX2_at_1 rfl (lv_at hl 1 rfl) ?_
  refine lv_bipush (v := nI 8) hx hb dX2_at_2 (by decide) ?_
  refine bn_imul hx hb dX2_at_4 ?_
  refine lv_lushr (v := (x.toUInt64 >>> ((nI (q * 8)).toInt64.toUInt64 &&& Int64.toUInt64 63)).toInt64) hx hb dX2_at_5 rfl ?_
  refine lv_ldc2 (v := 255) hx hb hown (hts (.constantLong RX2 11 255) (by decide +kernel)) dX2_at_6 ?_
  refine lv_land hx hb dX2_at_9 ?_
  refine lv_l2i (v := (((x.toUInt64 >>> ((nI (q * 8)).toInt64.toUInt64 &&& Int64.toUInt64 63)).toInt64) &&& 255).toInt32) hx hb dX2_at_10 rfl ?_
  exact bn_roti hx hb hr hlocks (rfl) dX2_at_11
set_option maxHeartbeats 4000000 in
set_option maxRecDepth 100000 in
theorem cc_with (l : Launch) (x : Int64) (q : Nat) (v : Int32) : Met l yX2_with wsX2_with ({ frames := 0, cells := 0, slots := 0, locals := 0 }) (va_Pc [.long (x), .int (nI q), .int (v)] (fun _ => True)) (vp_Sl (fun r => r = bh_wi x q v)) 0 0 (fun _ => False) := by
  refine Met.ofW (cc := cX2_with) (maxL := 5) (ret := (some .long)) (by decide) rfl ?_
  intro p e s m args below meth c0 s₁ B hml hv
  obtain ⟨rfl, -⟩ := hv
  have hx := B.exec
  have hb := B.bytes
  have hr := B.returns
  have hts := atoms_spec (ws := wsX2_with) B.pre
  have hown : s.vm.findClass RX2 = some m.cls := findClass_of_methodNamed B.named
  have hlocks := B.notSynchronized
  have hl := lv_entry ([.long (x), .int (nI q), .int (v)]) (n := 5) (Nat.le_of_ble_eq_true rfl)
  rw [lg_entry_eq]
  generalize (lg_sl ([.long (x), .int (nI q), .int (v)]) ++ List.replicate (5 - (lg_sl ([.long (x), .int (nI q), .int (v)])).length) Slot.unset).toArray = ls at hl ⊢
  have hl : lv_has ls 5 [(0, .long (x)), (2, .int (nI q)), (3, .int (v))] := hl
  refine lv_iload_n hx hb dX2_with_0 rfl (lv_at hl 1 rfl) ?_
  refine lv_bipush (v := nI 8) hx hb dX2_with_1 (by decide) ?_
  refine bn_imul hx hb dX2_with_3 ?_
  refine lv_istore (lv' := [(4, .int (nI (q * 8))), (0, .long (x)), (2, .int (nI q)), (3, .int (v))]) hx hb dX2_with_4 hl (by decide) rfl (fun ls hl => ?_)
  refine lv_lload_n hx hb dX2_with_6 rfl (lv_at hl 1 rfl) ?_
  refine lv_ldc2 (v := 255) hx hb hown (hts (.constantLong RX2 11 255) (by decide +kernel)) dX2_with_7 ?_
  refine lv_iload hx hb dX2_with_10 (lv_at hl 0 rfl) ?_
  refine lv_lshl (v := 255 <<< ((nI (q * 8)).toInt64 &&& 63)) hx hb dX2_with_12 rfl ?_
  refine lv_ldc2 (v := -1) hx hb hown (hts (.constantLong RX2 13 (-1)) (by decide +kernel)) dX2_with_13 ?_
  refine lv_lxor hx hb dX2_with_16 ?_
  refine lv_land hx hb dX2_with_17 ?_
  refine lv_iload_n hx hb dX2_with_18 rfl (lv_at hl 3 rfl) ?_
  refine lv_i2l (v := v.toInt64) hx hb dX2_with_19 rfl ?_
  refine lv_iload hx hb dX2_with_20 (lv_at hl 0 rfl) ?_
  refine lv_lshl (v := v.toInt64 <<< ((nI (q * 8)).toInt64 &&& 63)) hx hb dX2_with_22 rfl ?_
  refine lv_lor hx hb dX2_with_23 ?_
  exact bn_rotl hx hb hr hlocks (rfl) dX2_with_24
set_option maxHeartbeats 4000000 in
set_option maxRecDepth 100000 in
theorem cc_places (l : Launch) (x : Int64) : Met l yX2_places wsX2_places ({ frames := 1, cells := 0, slots := 0, locals := 22 }) (va_Pc [.long (x)] (fun _ => True)) (vp_Si (fun r => r = bh_plL x 8)) 0 0 (fun _ => False) := by
  refine Met.ofW (cc := cX2_places) (maxL := 4) (ret := (some .int)) (by decide) rfl ?_
  intro p e s m args below meth c0 s₁ B hml hv
  obtain ⟨rfl, -⟩ := hv
  have hx := B.exec
  have hb := B.bytes
  have hr := B.returns
  have hts := atoms_spec (ws := wsX2_places) B.pre
  have hown : s.vm.findClass RX2 = some m.cls := findClass_of_methodNamed B.named
  have hlocks := B.notSynchronized
  have hl := lv_entry ([.long (x)]) (n := 4) (Nat.le_of_ble_eq_true rfl)
  rw [lg_entry_eq]
  generalize (lg_sl ([.long (x)]) ++ List.replicate (4 - (lg_sl ([.long (x)])).length) Slot.unset).toArray = ls at hl ⊢
  have hl : lv_has ls 4 [(0, .long (x))] := hl
  refine lv_iconst (v := nI 0) hx hb dX2_places_0 (by decide) ?_
  refine lv_istore_n (lv' := [(2, .int (nI 0)), (0, .long (x))]) hx hb dX2_places_1 rfl hl (by decide) rfl (fun ls hl => ?_)
  refine lv_iconst (v := nI 0) hx hb dX2_places_2 (by decide) ?_
  refine lv_istore_n (lv' := [(3, .int (nI 0)), (2, .int (nI 0)), (0, .long (x))]) hx hb dX2_places_3 rfl hl (by decide) rfl (fun ls hl => ?_)
  refine bh_loop (σ := Nat) (fun (q : Nat) H locs ls => H = s.heap ∧ locs = [] ∧ q ≤ 8 ∧ lv_has ls 4 [(3, .int (nI q)), (2, .int (bh_plL x q)), (0, .long (x))]) (fun (q : Nat) => 8 - q) (fun q H locs ls hx_1 ih_1 => ?_) 0 _ _ _ ⟨rfl, rfl, Nat.zero_le 8, lv_sub hl [0, 1, 2] rfl⟩
  clear hl
  obtain ⟨rfl, rfl, hq, hl⟩ := hx_1
  refine lv_iload_n hx hb dX2_places_4 rfl (lv_at hl 0 rfl) ?_
  refine lv_bipush (v := nI 8) hx hb dX2_places_5 (by decide) ?_
  refine bn_cmp_ge (tgt := 30) hx hb (by omega) (by omega) dX2_places_7 (by decide) (fun c_2 => ?_) (fun c_2 => ?_)
  · refine lv_iload_n hx hb dX2_places_30 rfl (lv_at hl 1 rfl) ?_
    exact bn_roti hx hb hr hlocks (by rw [show q = 8 by omega]) dX2_places_31
  · refine lv_lload_n hx hb dX2_places_10 rfl (lv_at hl 2 rfl) ?_
    refine lv_iload_n hx hb dX2_places_11 rfl (lv_at hl 0 rfl) ?_
    refine vp_callSi (bn_roS (As := [.long (x), .int (nI q)]) (rest := []) ⟨hx, hb, hml, hown, hts⟩ (cc_at l (x) (q)) (va_cwS 2 hts gX2_places_X2_at rfl rfl rfl (by decide +kernel) ⟨Nat.le_of_ble_eq_true rfl, Nat.le_of_ble_eq_true rfl⟩) rfl hl.1 (Nat.le_of_ble_eq_true rfl) dX2_places_12 ⟨Nat.le_of_ble_eq_true rfl, Nat.le_of_ble_eq_true rfl⟩) (fun r_3 er_3 => ?_)
    subst er_3
    refine lv_if_eq (tgt := 24) hx hb dX2_places_15 (by decide) (fun c_4 => ?_) (fun c_4 => ?_)
    · refine lv_iinc (v := nI (q + 1)) (lv' := [(3, .int (nI (q + 1))), (2, .int (bh_plL x q)), (0, .long (x))]) hx hb dX2_places_24 hl (k := 0) rfl (nI_1 _) (by decide) rfl (fun ls hl => ?_)
      refine lv_goto (tgt := 4) hx hb dX2_places_27 (by decide) ?_
      exact ih_1 (q + 1) _ _ _ ⟨rfl, rfl, by omega, (by rw [show bh_plL x (q + 1) = _ from if_pos c_4]; exact (lv_sub hl [0, 1, 2] rfl))⟩ (by show 8 - (q + 1) < 8 - q; omega)
    · refine lv_iload_n hx hb dX2_places_18 rfl (lv_at hl 1 rfl) ?_
      refine lv_iconst (v := nI 1) hx hb dX2_places_19 (by decide) ?_
      refine lv_iload_n hx hb dX2_places_20 rfl (lv_at hl 0 rfl) ?_
      refine lv_ishl hx hb dX2_places_21 ?_
      refine lv_ior hx hb dX2_places_22 ?_
      refine lv_istore_n (lv' := [(2, .int ((bh_plL x q) ||| ((nI 1) <<< ((nI q) &&& 31)))), (3, .int (nI q)), (0, .long (x))]) hx hb dX2_places_23 rfl hl (by decide) rfl (fun ls hl => ?_)
      refine lv_iinc (v := nI (q + 1)) (lv' := [(3, .int (nI (q + 1))), (2, .int ((bh_plL x q) ||| ((nI 1) <<< ((nI q) &&& 31)))), (0, .long (x))]) hx hb dX2_places_24 hl (k := 1) rfl (nI_1 _) (by decide) rfl (fun ls hl => ?_)
      refine lv_goto (tgt := 4) hx hb dX2_places_27 (by decide) ?_
      exact ih_1 (q + 1) _ _ _ ⟨rfl, rfl, by omega, (by rw [show bh_plL x (q + 1) = _ from if_neg c_4]; exact (lv_sub hl [0, 1, 2] rfl))⟩ (by show 8 - (q + 1) < 8 - q; omega)
set_option maxHeartbeats 4000000 in
set_option maxRecDepth 100000 in
theorem cc_send (l : Launch) (D : va_G) (c : bh_C) (h : Nat) (ad : Nat → Nat) (ba : Nat → Nat → Nat) (nv km : Nat) (sz : Nat) (C : cS) (kd bb vv pp : Int32) (x : Int64) (ha : C.1.1 15 ≤ 400) : Met l yX0_send wsX0_send ({ frames := 0, cells := 0, slots := 0, locals := 0 }) (va_Pc [.ref (ad 7), .int (kd), .int (bb), .int (vv), .int (pp), .long (x)] (bh_prm D c (bh_cw h ad ba c nv km (C)) sz)) (va_Qv (fun u : cS => u = bc_sd C kd bb vv pp x) (fun u t => bh_post D c (bh_cw h ad ba c nv km u) (va_A (bh_cw h ad ba c nv km (C)) sz) t) (va_A (bh_cw h ad ba c nv km (C)) sz)) 0 0 (va_A (bh_cw h ad ba c nv km (C)) sz) := by
  refine Met.ofW (cc := cX0_send) (maxL := 7) (ret := none) (by decide) rfl ?_
  intro p e s m args below meth c0 s₁ B hml hv
  obtain ⟨rfl, hsz, hP, hK, hD0⟩ := hv
  have hx := B.exec
  have hb := B.bytes
  have hr := B.returns
  have hts := atoms_spec (ws := wsX0_send) B.pre
  have hown : s.vm.findClass RX0 = some m.cls := findClass_of_methodNamed B.named
  have hlocks := B.notSynchronized
  have hinX0 : ∀ w ∈ wsX00, w ∈ wsX0_send := fun _ h => List.mem_cons_of_mem _ (List.mem_append_right _ h)
  have lk_9 : (Cond.fieldLink RX0 9 "BallotHouse$Air" "kind" "[I").before _ s = true := hts _ (by decide +kernel)
  have lk_15 : (Cond.fieldLink RX0 15 "BallotHouse$Air" "ballot" "[I").before _ s = true := hts _ (by decide +kernel)
  have lk_18 : (Cond.fieldLink RX0 18 "BallotHouse$Air" "voter" "[I").before _ s = true := hts _ (by decide +kernel)
  have lk_21 : (Cond.fieldLink RX0 21 "BallotHouse$Air" "place" "[I").before _ s = true := hts _ (by decide +kernel)
  have lk_24 : (Cond.fieldLink RX0 24 "BallotHouse$Air" "votes" "[J").before _ s = true := hts _ (by decide +kernel)
  have lk_28 : (Cond.fieldLink RX0 28 "BallotHouse$Air" "size" "I").before _ s = true := hts _ (by decide +kernel)
  have lk_32 : (Cond.fieldLink RX0 32 "BallotHouse$Air" "lost" "I").before _ s = true := hts _ (by decide +kernel)
  subst hsz
  have hI := bh_start hP hD0
  generalize hAe : va_A (bh_cw h ad ba c nv km (C)) s.heap.size = A at hI ⊢
  have hA : ∀ q : Nat, s.heap.size ≤ q → A q := fun q h => by rw [← hAe]; exact Or.inr h
  clear hP hD0 hAe
  have hl := lv_entry ([.ref (ad 7), .int (kd), .int (bb), .int (vv), .int (pp), .long (x)]) (n := 7) (Nat.le_of_ble_eq_true rfl)
  rw [lg_entry_eq]
  generalize (lg_sl ([.ref (ad 7), .int (kd), .int (bb), .int (vv), .int (pp), .long (x)]) ++ List.replicate (7 - (lg_sl ([.ref (ad 7), .int (kd), .int (bb), .int (vv), .int (pp), .long (x)])).length) Slot.unset).toArray = ls at hl ⊢
  have hl : lv_has ls 7 [(0, .ref (ad 7)), (1, .int (kd)), (2, .int (bb)), (3, .int (vv)), (4, .int (pp)), (5, .long (x))] := hl
  refine lv_aload_n hx hb dX0_send_0 rfl (lv_at hl 0 rfl) ?_
  refine bn_get (ci := 0) (v := .int (nI (C.1.1 15))) (C := RX0) (T := TX0) (N := 7) hx hb hts hinX0 hown hK hI 4 rfl rfl 5 (by decide) lk_28 rfl (rfl) dX0_send_1 ?_
  refine lv_sipush (v := nI 400) hx hb dX0_send_4 (by decide) ?_
  refine bn_cmp_lt (tgt := 21) hx hb (by omega) (by omega) dX0_send_7 (by decide) (fun c_1 => ?_) (fun c_1 => ?_)
  · refine lv_aload_n hx hb dX0_send_21 rfl (lv_at hl 0 rfl) ?_
    refine bn_get (ci := 0) (v := .ref (ad 10)) (C := RX0) (T := TX0) (N := 7) hx hb hts hinX0 hown hK hI 4 rfl rfl 0 (by decide) lk_9 rfl (rfl) dX0_send_22 ?_
    refine lv_aload_n hx hb dX0_send_25 rfl (lv_at hl 0 rfl) ?_
    refine bn_get (ci := 0) (v := .int (nI (C.1.1 15))) (C := RX0) (T := TX0) (N := 7) hx hb hts hinX0 hown hK hI 4 rfl rfl 5 (by decide) lk_28 rfl (rfl) dX0_send_26 ?_
    refine lv_iload_n hx hb dX0_send_29 rfl (lv_at hl 1 rfl) ?_
    refine bn_iast (n := 400) (ws' := bh_cw h ad ba c nv km (bc_r C 10 (C.1.1 15) kd)) hx hb hK hI 5 0 rfl rfl (by omega) (by first | decide | omega) dX0_send_30 rfl (fun H locs hI => ?_)
    refine lv_aload_n hx hb dX0_send_31 rfl (lv_at hl 0 rfl) ?_
    refine bn_get (ci := 0) (v := .ref (ad 11)) (C := RX0) (T := TX0) (N := 7) hx hb hts hinX0 hown hK hI 4 rfl rfl 1 (by decide) lk_15 rfl (rfl) dX0_send_32 ?_
    refine lv_aload_n hx hb dX0_send_35 rfl (lv_at hl 0 rfl) ?_
    refine bn_get (ci := 0) (v := .int (nI (C.1.1 15))) (C := RX0) (T := TX0) (N := 7) hx hb hts hinX0 hown hK hI 4 rfl rfl 5 (by decide) lk_28 rfl (rfl) dX0_send_36 ?_
    refine lv_iload_n hx hb dX0_send_39 rfl (lv_at hl 2 rfl) ?_
    refine bn_iast (n := 400) (ws' := bh_cw h ad ba c nv km (bc_r (bc_r C 10 (C.1.1 15) kd) 11 (C.1.1 15) bb)) hx hb hK hI 6 0 rfl rfl (by omega) (by first | decide | omega) dX0_send_40 rfl (fun H locs hI => ?_)
    refine lv_aload_n hx hb dX0_send_41 rfl (lv_at hl 0 rfl) ?_
    refine bn_get (ci := 0) (v := .ref (ad 12)) (C := RX0) (T := TX0) (N := 7) hx hb hts hinX0 hown hK hI 4 rfl rfl 2 (by decide) lk_18 rfl (rfl) dX0_send_42 ?_
    refine lv_aload_n hx hb dX0_send_45 rfl (lv_at hl 0 rfl) ?_
    refine bn_get (ci := 0) (v := .int (nI (C.1.1 15))) (C := RX0) (T := TX0) (N := 7) hx hb hts hinX0 hown hK hI 4 rfl rfl 5 (by decide) lk_28 rfl (rfl) dX0_send_46 ?_
    refine lv_iload_n hx hb dX0_send_49 rfl (lv_at hl 3 rfl) ?_
    refine bn_iast (n := 400) (ws' := bh_cw h ad ba c nv km (bc_r (bc_r (bc_r C 10 (C.1.1 15) kd) 11 (C.1.1 15) bb) 12 (C.1.1 15) vv)) hx hb hK hI 7 0 rfl rfl (by omega) (by first | decide | omega) dX0_send_50 rfl (fun H locs hI => ?_)
    refine lv_aload_n hx hb dX0_send_51 rfl (lv_at hl 0 rfl) ?_
    refine bn_get (ci := 0) (v := .ref (ad 13)) (C := RX0) (T := TX0) (N := 7) hx hb hts hinX0 hown hK hI 4 rfl rfl 3 (by decide) lk_21 rfl (rfl) dX0_send_52 ?_
    refine lv_aload_n hx hb dX0_send_55 rfl (lv_at hl 0 rfl) ?_
    refine bn_get (ci := 0) (v := .int (nI (C.1.1 15))) (C := RX0) (T := TX0) (N := 7) hx hb hts hinX0 hown hK hI 4 rfl rfl 5 (by decide) lk_28 rfl (rfl) dX0_send_56 ?_
    refine lv_iload hx hb dX0_send_59 (lv_at hl 4 rfl) ?_
    refine bn_iast (n := 400) (ws' := bh_cw h ad ba c nv km (bc_r (bc_r (bc_r (bc_r C 10 (C.1.1 15) kd) 11 (C.1.1 15) bb) 12 (C.1.1 15) vv) 13 (C.1.1 15) pp)) hx hb hK hI 8 0 rfl rfl (by omega) (by first | decide | omega) dX0_send_61 rfl (fun H locs hI => ?_)
    refine lv_aload_n hx hb dX0_send_62 rfl (lv_at hl 0 rfl) ?_
    refine bn_get (ci := 0) (v := .ref (ad 14)) (C := RX0) (T := TX0) (N := 7) hx hb hts hinX0 hown hK hI 4 rfl rfl 4 (by decide) lk_24 rfl (rfl) dX0_send_63 ?_
    refine lv_aload_n hx hb dX0_send_66 rfl (lv_at hl 0 rfl) ?_
    refine bn_get (ci := 0) (v := .int (nI (C.1.1 15))) (C := RX0) (T := TX0) (N := 7) hx hb hts hinX0 hown hK hI 4 rfl rfl 5 (by decide) lk_28 rfl (rfl) dX0_send_67 ?_
    refine lv_lload hx hb dX0_send_70 (lv_at hl 5 rfl) ?_
    refine bn_last (n := 400) (ws' := bh_cw h ad ba c nv km (bc_l (bc_r (bc_r (bc_r (bc_r C 10 (C.1.1 15) kd) 11 (C.1.1 15) bb) 12 (C.1.1 15) vv) 13 (C.1.1 15) pp) 14 (C.1.1 15) x)) hx hb hK hI 9 1 rfl rfl (by omega) (by first | decide | omega) dX0_send_72 rfl (fun H locs hI => ?_)
    refine lv_aload_n hx hb dX0_send_73 rfl (lv_at hl 0 rfl) ?_
    refine lv_dup hx hb dX0_send_74 rfl ?_
    refine bn_get (ci := 0) (v := .int (nI (C.1.1 15))) (C := RX0) (T := TX0) (N := 7) hx hb hts hinX0 hown hK hI 4 rfl rfl 5 (by decide) lk_28 rfl (rfl) dX0_send_75 ?_
    refine lv_iconst (v := nI 1) hx hb dX0_send_78 (by decide) ?_
    refine bn_iadd hx hb dX0_send_79 ?_
    refine bn_put (ci := 0) (v := .int (nI ((C.1.1 15) + 1))) (ty := .int) (C := RX0) (T := TX0) (N := 7) (ws' := bh_cw h ad ba c nv km (bc_n (bc_l (bc_r (bc_r (bc_r (bc_r C 10 (C.1.1 15) kd) 11 (C.1.1 15) bb) 12 (C.1.1 15) vv) 13 (C.1.1 15) pp) 14 (C.1.1 15) x) 15 ((C.1.1 15) + 1))) hx hb hts hinX0 tyX0 tyX0_ok nmX0 hown hK hI 4 rfl rfl 5 (by decide) lk_28 rfl rfl rfl rfl rfl (Nat.le_of_ble_eq_true rfl) dX0_send_80 rfl (fun H locs hI => ?_)
    exact bn_retv hx hb hr hlocks hK (bc_n (bc_l (bc_r (bc_r (bc_r (bc_r C 10 (C.1.1 15) kd) 11 (C.1.1 15) bb) 12 (C.1.1 15) vv) 13 (C.1.1 15) pp) 14 (C.1.1 15) x) 15 ((C.1.1 15) + 1)) hI (by unfold bc_sd; rw [if_pos c_1]; rfl) dX0_send_83
  · refine lv_aload_n hx hb dX0_send_10 rfl (lv_at hl 0 rfl) ?_
    refine lv_dup hx hb dX0_send_11 rfl ?_
    refine bn_get (ci := 0) (v := .int (C.1.2.1 16)) (C := RX0) (T := TX0) (N := 7) hx hb hts hinX0 hown hK hI 4 rfl rfl 6 (by decide) lk_32 rfl (rfl) dX0_send_12 ?_
    refine lv_iconst (v := nI 1) hx hb dX0_send_15 (by decide) ?_
    refine lv_iadd hx hb dX0_send_16 ?_
    refine bn_put (ci := 0) (v := .int ((C.1.2.1 16) + (nI 1))) (ty := .int) (C := RX0) (T := TX0) (N := 7) (ws' := bh_cw h ad ba c nv km (bc_i C 16 ((C.1.2.1 16) + (nI 1)))) hx hb hts hinX0 tyX0 tyX0_ok nmX0 hown hK hI 4 rfl rfl 6 (by decide) lk_32 rfl rfl rfl rfl rfl (Nat.le_of_ble_eq_true rfl) dX0_send_17 rfl (fun H locs hI => ?_)
    exact bn_retv hx hb hr hlocks hK (bc_i C 16 ((C.1.2.1 16) + (nI 1))) hI (by unfold bc_sd; rw [if_neg c_1]) dX0_send_20
set_option maxHeartbeats 4000000 in
set_option maxRecDepth 100000 in
theorem cc_repeat (l : Launch) (D : va_G) (c : bh_C) (h : Nat) (ad : Nat → Nat) (ba : Nat → Nat → Nat) (nv km : Nat) (sz : Nat) (C : cS) (k : Nat) (ha : C.1.1 15 ≤ 400) (hk : k < C.1.1 15) : Met l yX0_repeat wsX0_repeat ({ frames := 1, cells := 0, slots := 0, locals := 26 }) (va_Pc [.ref (ad 7), .int (nI k)] (bh_prm D c (bh_cw h ad ba c nv km (C)) sz)) (va_Qv (fun u : cS => u = bc_rp C k) (fun u t => bh_post D c (bh_cw h ad ba c nv km u) (va_A (bh_cw h ad ba c nv km (C)) sz) t) (va_A (bh_cw h ad ba c nv km (C)) sz)) 0 0 (va_A (bh_cw h ad ba c nv km (C)) sz) := by
  refine Met.ofW (cc := cX0_repeat) (maxL := 2) (ret := none) (by decide) rfl ?_
  intro p e s m args below meth c0 s₁ B hml hv
  obtain ⟨rfl, hsz, hP, hK, hD0⟩ := hv
  have hx := B.exec
  have hb := B.bytes
  have hr := B.returns
  have hts := atoms_spec (ws := wsX0_repeat) B.pre
  have hown : s.vm.findClass RX0 = some m.cls := findClass_of_methodNamed B.named
  have hlocks := B.notSynchronized
  have hinX0 : ∀ w ∈ wsX00, w ∈ wsX0_repeat := fun _ h => List.mem_cons_of_mem _ (List.mem_append_right _ h)
  have lk_9 : (Cond.fieldLink RX0 9 "BallotHouse$Air" "kind" "[I").before _ s = true := hts _ (by decide +kernel)
  have lk_15 : (Cond.fieldLink RX0 15 "BallotHouse$Air" "ballot" "[I").before _ s = true := hts _ (by decide +kernel)
  have lk_18 : (Cond.fieldLink RX0 18 "BallotHouse$Air" "voter" "[I").before _ s = true := hts _ (by decide +kernel)
  have lk_21 : (Cond.fieldLink RX0 21 "BallotHouse$Air" "place" "[I").before _ s = true := hts _ (by decide +kernel)
  have lk_24 : (Cond.fieldLink RX0 24 "BallotHouse$Air" "votes" "[J").before _ s = true := hts _ (by decide +kernel)
  subst hsz
  have hI := bh_start hP hD0
  generalize hAe : va_A (bh_cw h ad ba c nv km (C)) s.heap.size = A at hI ⊢
  have hA : ∀ q : Nat, s.heap.size ≤ q → A q := fun q h => by rw [← hAe]; exact Or.inr h
  clear hP hD0 hAe
  have hl := lv_entry ([.ref (ad 7), .int (nI k)]) (n := 2) (Nat.le_of_ble_eq_true rfl)
  rw [lg_entry_eq]
  generalize (lg_sl ([.ref (ad 7), .int (nI k)]) ++ List.replicate (2 - (lg_sl ([.ref (ad 7), .int (nI k)])).length) Slot.unset).toArray = ls at hl ⊢
  have hl : lv_has ls 2 [(0, .ref (ad 7)), (1, .int (nI k))] := hl
  have hx1 := bh_ix_nI hk (by omega)
  refine lv_aload_n hx hb dX0_repeat_0 rfl (lv_at hl 0 rfl) ?_
  refine lv_iload_n hx hb dX0_repeat_1 rfl (lv_at hl 1 rfl) ?_
  refine vp_callSi (bn_roV (As := [.int (nI k)]) (rest := []) ⟨hx, hb, hml, hown, hts⟩ (cc_has l D c h ad ba nv km (C) (nI k) ha) (cwV 1 hts gX0_repeat_X0_has rfl rfl rfl (by decide +kernel) ⟨Nat.le_of_ble_eq_true rfl, Nat.le_of_ble_eq_true rfl⟩) hK hI 4 0 rfl rfl rfl rfl hl.1 (Nat.le_of_ble_eq_true rfl) dX0_repeat_2 ⟨Nat.le_of_ble_eq_true rfl, Nat.le_of_ble_eq_true rfl⟩) (fun r_1 er_1 => ?_)
  obtain rfl : r_1 = nI 1 := by rw [er_1, hx1]; rfl
  refine lv_if_eq (tgt := 42) hx hb dX0_repeat_5 (by decide) (fun c_2 => ?_) (fun c_2 => ?_)
  · first | exact absurd c_2 (by decide) | exact absurd (by decide) c_2
  · refine lv_aload_n hx hb dX0_repeat_8 rfl (lv_at hl 0 rfl) ?_
    refine lv_aload_n hx hb dX0_repeat_9 rfl (lv_at hl 0 rfl) ?_
    refine bn_get (ci := 0) (v := .ref (ad 10)) (C := RX0) (T := TX0) (N := 7) hx hb hts hinX0 hown hK hI 4 rfl rfl 0 (by decide) lk_9 rfl (rfl) dX0_repeat_10 ?_
    refine lv_iload_n hx hb dX0_repeat_13 rfl (lv_at hl 1 rfl) ?_
    refine bn_iald (n := 400) (v := C.1.2.2.1 10 k) hx hb hK hI 5 0 rfl rfl (by omega) (by first | decide | omega) (rfl) dX0_repeat_14 ?_
    refine lv_aload_n hx hb dX0_repeat_15 rfl (lv_at hl 0 rfl) ?_
    refine bn_get (ci := 0) (v := .ref (ad 11)) (C := RX0) (T := TX0) (N := 7) hx hb hts hinX0 hown hK hI 4 rfl rfl 1 (by decide) lk_15 rfl (rfl) dX0_repeat_16 ?_
    refine lv_iload_n hx hb dX0_repeat_19 rfl (lv_at hl 1 rfl) ?_
    refine bn_iald (n := 400) (v := C.1.2.2.1 11 k) hx hb hK hI 6 0 rfl rfl (by omega) (by first | decide | omega) (rfl) dX0_repeat_20 ?_
    refine lv_aload_n hx hb dX0_repeat_21 rfl (lv_at hl 0 rfl) ?_
    refine bn_get (ci := 0) (v := .ref (ad 12)) (C := RX0) (T := TX0) (N := 7) hx hb hts hinX0 hown hK hI 4 rfl rfl 2 (by decide) lk_18 rfl (rfl) dX0_repeat_22 ?_
    refine lv_iload_n hx hb dX0_repeat_25 rfl (lv_at hl 1 rfl) ?_
    refine bn_iald (n := 400) (v := C.1.2.2.1 12 k) hx hb hK hI 7 0 rfl rfl (by omega) (by first | decide | omega) (rfl) dX0_repeat_26 ?_
    refine lv_aload_n hx hb dX0_repeat_27 rfl (lv_at hl 0 rfl) ?_
    refine bn_get (ci := 0) (v := .ref (ad 13)) (C := RX0) (T := TX0) (N := 7) hx hb hts hinX0 hown hK hI 4 rfl rfl 3 (by decide) lk_21 rfl (rfl) dX0_repeat_28 ?_
    refine lv_iload_n hx hb dX0_repeat_31 rfl (lv_at hl 1 rfl) ?_
    refine bn_iald (n := 400) (v := C.1.2.2.1 13 k) hx hb hK hI 8 0 rfl rfl (by omega) (by first | decide | omega) (rfl) dX0_repeat_32 ?_
    refine lv_aload_n hx hb dX0_repeat_33 rfl (lv_at hl 0 rfl) ?_
    refine bn_get (ci := 0) (v := .ref (ad 14)) (C := RX0) (T := TX0) (N := 7) hx hb hts hinX0 hown hK hI 4 rfl rfl 4 (by decide) lk_24 rfl (rfl) dX0_repeat_34 ?_
    refine lv_iload_n hx hb dX0_repeat_37 rfl (lv_at hl 1 rfl) ?_
    refine bn_lald (n := 400) (v := C.1.2.2.2 14 k) hx hb hK hI 9 1 rfl rfl (by omega) (by first | decide | omega) (rfl) dX0_repeat_38 ?_
    refine bn_muv (bn_muV (As := [.int (C.1.2.2.1 10 k), .int (C.1.2.2.1 11 k), .int (C.1.2.2.1 12 k), .int (C.1.2.2.1 13 k), .long (C.1.2.2.2 14 k)]) (rest := []) ⟨hx, hb, hml, hown, hts⟩ (cc_send l D c h ad ba nv km _ (C) (C.1.2.2.1 10 k) (C.1.2.2.1 11 k) (C.1.2.2.1 12 k) (C.1.2.2.1 13 k) (C.1.2.2.2 14 k) (ha)) (cwV 5 hts gX0_repeat_X0_send rfl rfl rfl (by decide +kernel) ⟨Nat.le_of_ble_eq_true rfl, Nat.le_of_ble_eq_true rfl⟩) hK hI 4 0 rfl rfl rfl rfl hl.1 (Nat.le_of_ble_eq_true rfl) dX0_repeat_39 ⟨Nat.le_of_ble_eq_true rfl, Nat.le_of_ble_eq_true rfl⟩) hI hA (fun u_3 H locs eu_3 hI => ?_)
    subst eu_3
    exact bn_retv hx hb hr hlocks hK (bc_sd (C) (C.1.2.2.1 10 k) (C.1.2.2.1 11 k) (C.1.2.2.1 12 k) (C.1.2.2.1 13 k) (C.1.2.2.2 14 k)) hI (rfl) dX0_repeat_42
set_option maxHeartbeats 4000000 in
set_option maxRecDepth 100000 in
theorem cc_drop (l : Launch) (D : va_G) (c : bh_C) (h : Nat) (ad : Nat → Nat) (ba : Nat → Nat → Nat) (nv km : Nat) (sz : Nat) (C : cS) (k : Nat) (ha : C.1.1 15 ≤ 400) (hk : k < C.1.1 15) : Met l yX0_drop wsX0_drop ({ frames := 1, cells := 0, slots := 0, locals := 60 }) (va_Pc [.ref (ad 7), .int (nI k)] (bh_prm D c (bh_cw h ad ba c nv km (C)) sz)) (va_Qv (fun u : cS => u = bc_dp C k) (fun u t => bh_post D c (bh_cw h ad ba c nv km u) (va_A (bh_cw h ad ba c nv km (C)) sz) t) (va_A (bh_cw h ad ba c nv km (C)) sz)) 0 0 (va_A (bh_cw h ad ba c nv km (C)) sz) := by
  refine Met.ofW (cc := cX0_drop) (maxL := 3) (ret := none) (by decide) rfl ?_
  intro p e s m args below meth c0 s₁ B hml hv
  obtain ⟨rfl, hsz, hP, hK, hD0⟩ := hv
  have hx := B.exec
  have hb := B.bytes
  have hr := B.returns
  have hts := atoms_spec (ws := wsX0_drop) B.pre
  have hown : s.vm.findClass RX0 = some m.cls := findClass_of_methodNamed B.named
  have hlocks := B.notSynchronized
  have hinX0 : ∀ w ∈ wsX00, w ∈ wsX0_drop := fun _ h => List.mem_cons_of_mem _ (List.mem_append_right _ h)
  have lk_9 : (Cond.fieldLink RX0 9 "BallotHouse$Air" "kind" "[I").before _ s = true := hts _ (by decide +kernel)
  have lk_15 : (Cond.fieldLink RX0 15 "BallotHouse$Air" "ballot" "[I").before _ s = true := hts _ (by decide +kernel)
  have lk_18 : (Cond.fieldLink RX0 18 "BallotHouse$Air" "voter" "[I").before _ s = true := hts _ (by decide +kernel)
  have lk_21 : (Cond.fieldLink RX0 21 "BallotHouse$Air" "place" "[I").before _ s = true := hts _ (by decide +kernel)
  have lk_24 : (Cond.fieldLink RX0 24 "BallotHouse$Air" "votes" "[J").before _ s = true := hts _ (by decide +kernel)
  have lk_28 : (Cond.fieldLink RX0 28 "BallotHouse$Air" "size" "I").before _ s = true := hts _ (by decide +kernel)
  subst hsz
  have hI := bh_start hP hD0
  generalize hAe : va_A (bh_cw h ad ba c nv km (C)) s.heap.size = A at hI ⊢
  have hA : ∀ q : Nat, s.heap.size ≤ q → A q := fun q h => by rw [← hAe]; exact Or.inr h
  clear hP hD0 hAe
  have hl := lv_entry ([.ref (ad 7), .int (nI k)]) (n := 3) (Nat.le_of_ble_eq_true rfl)
  rw [lg_entry_eq]
  generalize (lg_sl ([.ref (ad 7), .int (nI k)]) ++ List.replicate (3 - (lg_sl ([.ref (ad 7), .int (nI k)])).length) Slot.unset).toArray = ls at hl ⊢
  have hl : lv_has ls 3 [(0, .ref (ad 7)), (1, .int (nI k))] := hl
  have hx1 := bh_ix_nI hk (by omega)
  refine lv_aload_n hx hb dX0_drop_0 rfl (lv_at hl 0 rfl) ?_
  refine lv_iload_n hx hb dX0_drop_1 rfl (lv_at hl 1 rfl) ?_
  refine vp_callSi (bn_roV (As := [.int (nI k)]) (rest := []) ⟨hx, hb, hml, hown, hts⟩ (cc_has l D c h ad ba nv km (C) (nI k) ha) (cwV 1 hts gX0_drop_X0_has rfl rfl rfl (by decide +kernel) ⟨Nat.le_of_ble_eq_true rfl, Nat.le_of_ble_eq_true rfl⟩) hK hI 4 0 rfl rfl rfl rfl hl.1 (Nat.le_of_ble_eq_true rfl) dX0_drop_2 ⟨Nat.le_of_ble_eq_true rfl, Nat.le_of_ble_eq_true rfl⟩) (fun r_1 er_1 => ?_)
  obtain rfl : r_1 = nI 1 := by rw [er_1, hx1]; rfl
  refine lv_if_ne (tgt := 9) hx hb dX0_drop_5 (by decide) (fun c_2 => ?_) (fun c_2 => ?_)
  · refine lv_aload_n hx hb dX0_drop_9 rfl (lv_at hl 0 rfl) ?_
    refine bn_get (ci := 0) (v := .int (nI (C.1.1 15))) (C := RX0) (T := TX0) (N := 7) hx hb hts hinX0 hown hK hI 4 rfl rfl 5 (by decide) lk_28 rfl (rfl) dX0_drop_10 ?_
    refine lv_iload_n hx hb dX0_drop_13 rfl (lv_at hl 1 rfl) ?_
    refine bn_isub hx hb (by omega) dX0_drop_14 ?_
    refine lv_iconst (v := nI 1) hx hb dX0_drop_15 (by decide) ?_
    refine bn_isub hx hb (by omega) dX0_drop_16 ?_
    refine lv_istore_n (lv' := [(2, .int (nI (((C.1.1 15) - k) - 1))), (0, .ref (ad 7)), (1, .int (nI k))]) hx hb dX0_drop_17 rfl hl (by decide) rfl (fun ls hl => ?_)
    refine lv_aload_n hx hb dX0_drop_18 rfl (lv_at hl 1 rfl) ?_
    refine bn_get (ci := 0) (v := .ref (ad 10)) (C := RX0) (T := TX0) (N := 7) hx hb hts hinX0 hown hK hI 4 rfl rfl 0 (by decide) lk_9 rfl (rfl) dX0_drop_19 ?_
    refine lv_iload_n hx hb dX0_drop_22 rfl (lv_at hl 2 rfl) ?_
    refine lv_iconst (v := nI 1) hx hb dX0_drop_23 (by decide) ?_
    refine bn_iadd hx hb dX0_drop_24 ?_
    refine lv_aload_n hx hb dX0_drop_25 rfl (lv_at hl 1 rfl) ?_
    refine bn_get (ci := 0) (v := .ref (ad 10)) (C := RX0) (T := TX0) (N := 7) hx hb hts hinX0 hown hK hI 4 rfl rfl 0 (by decide) lk_9 rfl (rfl) dX0_drop_26 ?_
    refine lv_iload_n hx hb dX0_drop_29 rfl (lv_at hl 2 rfl) ?_
    refine lv_iload_n hx hb dX0_drop_30 rfl (lv_at hl 0 rfl) ?_
    refine va_copyi hx hb (hml.trans hl.1.symm) hown (hts (.methodLink RX0 43 arraycopyName) (by decide +kernel)) (hts (.native arraycopyName) (by decide +kernel)) (hts (.static arraycopyName) (by decide +kernel)) (hts (.initialized "java/lang/System") (by decide +kernel)) hK.1 hI.1 hI.2.1 hI.2.2 5 5 0 0 rfl rfl rfl rfl rfl (nI_pos (by omega)) (nI_pos (by omega)) (nI_pos (by omega)) (by rw [nI_clamp (by omega), nI_clamp (by omega)]; omega) (by rw [nI_clamp (by omega), nI_clamp (by omega)]; omega) (fun _ _ => rfl) (Nat.le_of_ble_eq_true rfl) (Nat.le_of_ble_eq_true rfl) dX0_drop_31 (fun H locs h1 h2 h3 => ?_)
    rw [nI_clamp (by omega), nI_clamp (by omega), nI_clamp (by omega)] at h1 h2
    have hI : bh_I D (bh_cw h ad ba c nv km (bc_R C 10 (va_cpy (C.1.2.2.1 10) (C.1.2.2.1 10) (k + 1) k (C.1.1 15 - k - 1)))) A s.heap H locs := ⟨h1, h2, h3⟩
    refine lv_aload_n hx hb dX0_drop_34 rfl (lv_at hl 1 rfl) ?_
    refine bn_get (ci := 0) (v := .ref (ad 11)) (C := RX0) (T := TX0) (N := 7) hx hb hts hinX0 hown hK hI 4 rfl rfl 1 (by decide) lk_15 rfl (rfl) dX0_drop_35 ?_
    refine lv_iload_n hx hb dX0_drop_38 rfl (lv_at hl 2 rfl) ?_
    refine lv_iconst (v := nI 1) hx hb dX0_drop_39 (by decide) ?_
    refine bn_iadd hx hb dX0_drop_40 ?_
    refine lv_aload_n hx hb dX0_drop_41 rfl (lv_at hl 1 rfl) ?_
    refine bn_get (ci := 0) (v := .ref (ad 11)) (C := RX0) (T := TX0) (N := 7) hx hb hts hinX0 hown hK hI 4 rfl rfl 1 (by decide) lk_15 rfl (rfl) dX0_drop_42 ?_
    refine lv_iload_n hx hb dX0_drop_45 rfl (lv_at hl 2 rfl) ?_
    refine lv_iload_n hx hb dX0_drop_46 rfl (lv_at hl 0 rfl) ?_
    refine va_copyi hx hb (hml.trans hl.1.symm) hown (hts (.methodLink RX0 43 arraycopyName) (by decide +kernel)) (hts (.native arraycopyName) (by decide +kernel)) (hts (.static arraycopyName) (by decide +kernel)) (hts (.initialized "java/lang/System") (by decide +kernel)) hK.1 hI.1 hI.2.1 hI.2.2 6 6 0 0 rfl rfl rfl rfl rfl (nI_pos (by omega)) (nI_pos (by omega)) (nI_pos (by omega)) (by rw [nI_clamp (by omega), nI_clamp (by omega)]; omega) (by rw [nI_clamp (by omega), nI_clamp (by omega)]; omega) (fun _ _ => rfl) (Nat.le_of_ble_eq_true rfl) (Nat.le_of_ble_eq_true rfl) dX0_drop_47 (fun H locs h1 h2 h3 => ?_)
    rw [nI_clamp (by omega), nI_clamp (by omega), nI_clamp (by omega)] at h1 h2
    have hI : bh_I D (bh_cw h ad ba c nv km (bc_R (bc_R C 10 (va_cpy (C.1.2.2.1 10) (C.1.2.2.1 10) (k + 1) k (C.1.1 15 - k - 1))) 11 (va_cpy (C.1.2.2.1 11) (C.1.2.2.1 11) (k + 1) k (C.1.1 15 - k - 1)))) A s.heap H locs := ⟨h1, h2, h3⟩
    refine lv_aload_n hx hb dX0_drop_50 rfl (lv_at hl 1 rfl) ?_
    refine bn_get (ci := 0) (v := .ref (ad 12)) (C := RX0) (T := TX0) (N := 7) hx hb hts hinX0 hown hK hI 4 rfl rfl 2 (by decide) lk_18 rfl (rfl) dX0_drop_51 ?_
    refine lv_iload_n hx hb dX0_drop_54 rfl (lv_at hl 2 rfl) ?_
    refine lv_iconst (v := nI 1) hx hb dX0_drop_55 (by decide) ?_
    refine bn_iadd hx hb dX0_drop_56 ?_
    refine lv_aload_n hx hb dX0_drop_57 rfl (lv_at hl 1 rfl) ?_
    refine bn_get (ci := 0) (v := .ref (ad 12)) (C := RX0) (T := TX0) (N := 7) hx hb hts hinX0 hown hK hI 4 rfl rfl 2 (by decide) lk_18 rfl (rfl) dX0_drop_58 ?_
    refine lv_iload_n hx hb dX0_drop_61 rfl (lv_at hl 2 rfl) ?_
    refine lv_iload_n hx hb dX0_drop_62 rfl (lv_at hl 0 rfl) ?_
    refine va_copyi hx hb (hml.trans hl.1.symm) hown (hts (.methodLink RX0 43 arraycopyName) (by decide +kernel)) (hts (.native arraycopyName) (by decide +kernel)) (hts (.static arraycopyName) (by decide +kernel)) (hts (.initialized "java/lang/System") (by decide +kernel)) hK.1 hI.1 hI.2.1 hI.2.2 7 7 0 0 rfl rfl rfl rfl rfl (nI_pos (by omega)) (nI_pos (by omega)) (nI_pos (by omega)) (by rw [nI_clamp (by omega), nI_clamp (by omega)]; omega) (by rw [nI_clamp (by omega), nI_clamp (by omega)]; omega) (fun _ _ => rfl) (Nat.le_of_ble_eq_true rfl) (Nat.le_of_ble_eq_true rfl) dX0_drop_63 (fun H locs h1 h2 h3 => ?_)
    rw [nI_clamp (by omega), nI_clamp (by omega), nI_clamp (by omega)] at h1 h2
    have hI : bh_I D (bh_cw h ad ba c nv km (bc_R (bc_R (bc_R C 10 (va_cpy (C.1.2.2.1 10) (C.1.2.2.1 10) (k + 1) k (C.1.1 15 - k - 1))) 11 (va_cpy (C.1.2.2.1 11) (C.1.2.2.1 11) (k + 1) k (C.1.1 15 - k - 1))) 12 (va_cpy (C.1.2.2.1 12) (C.1.2.2.1 12) (k + 1) k (C.1.1 15 - k - 1)))) A s.heap H locs := ⟨h1, h2, h3⟩
    refine lv_aload_n hx hb dX0_drop_66 rfl (lv_at hl 1 rfl) ?_
    refine bn_get (ci := 0) (v := .ref (ad 13)) (C := RX0) (T := TX0) (N := 7) hx hb hts hinX0 hown hK hI 4 rfl rfl 3 (by decide) lk_21 rfl (rfl) dX0_drop_67 ?_
    refine lv_iload_n hx hb dX0_drop_70 rfl (lv_at hl 2 rfl) ?_
    refine lv_iconst (v := nI 1) hx hb dX0_drop_71 (by decide) ?_
    refine bn_iadd hx hb dX0_drop_72 ?_
    refine lv_aload_n hx hb dX0_drop_73 rfl (lv_at hl 1 rfl) ?_
    refine bn_get (ci := 0) (v := .ref (ad 13)) (C := RX0) (T := TX0) (N := 7) hx hb hts hinX0 hown hK hI 4 rfl rfl 3 (by decide) lk_21 rfl (rfl) dX0_drop_74 ?_
    refine lv_iload_n hx hb dX0_drop_77 rfl (lv_at hl 2 rfl) ?_
    refine lv_iload_n hx hb dX0_drop_78 rfl (lv_at hl 0 rfl) ?_
    refine va_copyi hx hb (hml.trans hl.1.symm) hown (hts (.methodLink RX0 43 arraycopyName) (by decide +kernel)) (hts (.native arraycopyName) (by decide +kernel)) (hts (.static arraycopyName) (by decide +kernel)) (hts (.initialized "java/lang/System") (by decide +kernel)) hK.1 hI.1 hI.2.1 hI.2.2 8 8 0 0 rfl rfl rfl rfl rfl (nI_pos (by omega)) (nI_pos (by omega)) (nI_pos (by omega)) (by rw [nI_clamp (by omega), nI_clamp (by omega)]; omega) (by rw [nI_clamp (by omega), nI_clamp (by omega)]; omega) (fun _ _ => rfl) (Nat.le_of_ble_eq_true rfl) (Nat.le_of_ble_eq_true rfl) dX0_drop_79 (fun H locs h1 h2 h3 => ?_)
    rw [nI_clamp (by omega), nI_clamp (by omega), nI_clamp (by omega)] at h1 h2
    have hI : bh_I D (bh_cw h ad ba c nv km (bc_R (bc_R (bc_R (bc_R C 10 (va_cpy (C.1.2.2.1 10) (C.1.2.2.1 10) (k + 1) k (C.1.1 15 - k - 1))) 11 (va_cpy (C.1.2.2.1 11) (C.1.2.2.1 11) (k + 1) k (C.1.1 15 - k - 1))) 12 (va_cpy (C.1.2.2.1 12) (C.1.2.2.1 12) (k + 1) k (C.1.1 15 - k - 1))) 13 (va_cpy (C.1.2.2.1 13) (C.1.2.2.1 13) (k + 1) k (C.1.1 15 - k - 1)))) A s.heap H locs := ⟨h1, h2, h3⟩
    refine lv_aload_n hx hb dX0_drop_82 rfl (lv_at hl 1 rfl) ?_
    refine bn_get (ci := 0) (v := .ref (ad 14)) (C := RX0) (T := TX0) (N := 7) hx hb hts hinX0 hown hK hI 4 rfl rfl 4 (by decide) lk_24 rfl (rfl) dX0_drop_83 ?_
    refine lv_iload_n hx hb dX0_drop_86 rfl (lv_at hl 2 rfl) ?_
    refine lv_iconst (v := nI 1) hx hb dX0_drop_87 (by decide) ?_
    refine bn_iadd hx hb dX0_drop_88 ?_
    refine lv_aload_n hx hb dX0_drop_89 rfl (lv_at hl 1 rfl) ?_
    refine bn_get (ci := 0) (v := .ref (ad 14)) (C := RX0) (T := TX0) (N := 7) hx hb hts hinX0 hown hK hI 4 rfl rfl 4 (by decide) lk_24 rfl (rfl) dX0_drop_90 ?_
    refine lv_iload_n hx hb dX0_drop_93 rfl (lv_at hl 2 rfl) ?_
    refine lv_iload_n hx hb dX0_drop_94 rfl (lv_at hl 0 rfl) ?_
    refine va_copyl hx hb (hml.trans hl.1.symm) hown (hts (.methodLink RX0 43 arraycopyName) (by decide +kernel)) (hts (.native arraycopyName) (by decide +kernel)) (hts (.static arraycopyName) (by decide +kernel)) (hts (.initialized "java/lang/System") (by decide +kernel)) hK.1 hI.1 hI.2.1 hI.2.2 9 9 1 1 rfl rfl rfl rfl rfl (nI_pos (by omega)) (nI_pos (by omega)) (nI_pos (by omega)) (by rw [nI_clamp (by omega), nI_clamp (by omega)]; omega) (by rw [nI_clamp (by omega), nI_clamp (by omega)]; omega) (fun _ _ => rfl) (Nat.le_of_ble_eq_true rfl) (Nat.le_of_ble_eq_true rfl) dX0_drop_95 (fun H locs h1 h2 h3 => ?_)
    rw [nI_clamp (by omega), nI_clamp (by omega), nI_clamp (by omega)] at h1 h2
    have hI : bh_I D (bh_cw h ad ba c nv km (bc_L (bc_R (bc_R (bc_R (bc_R C 10 (va_cpy (C.1.2.2.1 10) (C.1.2.2.1 10) (k + 1) k (C.1.1 15 - k - 1))) 11 (va_cpy (C.1.2.2.1 11) (C.1.2.2.1 11) (k + 1) k (C.1.1 15 - k - 1))) 12 (va_cpy (C.1.2.2.1 12) (C.1.2.2.1 12) (k + 1) k (C.1.1 15 - k - 1))) 13 (va_cpy (C.1.2.2.1 13) (C.1.2.2.1 13) (k + 1) k (C.1.1 15 - k - 1))) 14 (va_cpy (C.1.2.2.2 14) (C.1.2.2.2 14) (k + 1) k (C.1.1 15 - k - 1)))) A s.heap H locs := ⟨h1, h2, h3⟩
    refine lv_aload_n hx hb dX0_drop_98 rfl (lv_at hl 1 rfl) ?_
    refine lv_dup hx hb dX0_drop_99 rfl ?_
    refine bn_get (ci := 0) (v := .int (nI (C.1.1 15))) (C := RX0) (T := TX0) (N := 7) hx hb hts hinX0 hown hK hI 4 rfl rfl 5 (by decide) lk_28 rfl (rfl) dX0_drop_100 ?_
    refine lv_iconst (v := nI 1) hx hb dX0_drop_103 (by decide) ?_
    refine bn_isub hx hb (by omega) dX0_drop_104 ?_
    refine bn_put (ci := 0) (v := .int (nI ((C.1.1 15) - 1))) (ty := .int) (C := RX0) (T := TX0) (N := 7) (ws' := bh_cw h ad ba c nv km (bc_n (bc_L (bc_R (bc_R (bc_R (bc_R C 10 (va_cpy (C.1.2.2.1 10) (C.1.2.2.1 10) (k + 1) k (C.1.1 15 - k - 1))) 11 (va_cpy (C.1.2.2.1 11) (C.1.2.2.1 11) (k + 1) k (C.1.1 15 - k - 1))) 12 (va_cpy (C.1.2.2.1 12) (C.1.2.2.1 12) (k + 1) k (C.1.1 15 - k - 1))) 13 (va_cpy (C.1.2.2.1 13) (C.1.2.2.1 13) (k + 1) k (C.1.1 15 - k - 1))) 14 (va_cpy (C.1.2.2.2 14) (C.1.2.2.2 14) (k + 1) k (C.1.1 15 - k - 1))) 15 ((C.1.1 15) - 1))) hx hb hts hinX0 tyX0 tyX0_ok nmX0 hown hK hI 4 rfl rfl 5 (by decide) lk_28 rfl rfl rfl rfl rfl (Nat.le_of_ble_eq_true rfl) dX0_drop_105 rfl (fun H locs hI => ?_)
    exact bn_retv hx hb hr hlocks hK (bc_n (bc_L (bc_R (bc_R (bc_R (bc_R C 10 (va_cpy (C.1.2.2.1 10) (C.1.2.2.1 10) (k + 1) k (C.1.1 15 - k - 1))) 11 (va_cpy (C.1.2.2.1 11) (C.1.2.2.1 11) (k + 1) k (C.1.1 15 - k - 1))) 12 (va_cpy (C.1.2.2.1 12) (C.1.2.2.1 12) (k + 1) k (C.1.1 15 - k - 1))) 13 (va_cpy (C.1.2.2.1 13) (C.1.2.2.1 13) (k + 1) k (C.1.1 15 - k - 1))) 14 (va_cpy (C.1.2.2.2 14) (C.1.2.2.2 14) (k + 1) k (C.1.1 15 - k - 1))) 15 ((C.1.1 15) - 1)) hI (rfl) dX0_drop_108
  · first | exact absurd c_2 (by decide) | exact absurd (by decide) c_2
set_option maxHeartbeats 4000000 in
set_option maxRecDepth 100000 in
theorem cc_hasWord (l : Launch) (D : va_G) (c : bh_C) (h : Nat) (ad : Nat → Nat) (ba : Nat → Nat → Nat) (nv km : Nat) (C : cS) (b : Nat) (hb1 : 1 ≤ b) (hb2 : b ≤ km) (q : Nat) : Met l yX1_hasWord wsX1_hasWord ({ frames := 0, cells := 0, slots := 0, locals := 0 }) (va_Pc [.ref (ba b 0), .int (nI q)] (bh_pre D c (bh_cw h ad ba c nv km (C)))) (vp_Si (fun r => r = bh_tf (bc_hw C b q))) 0 0 (fun _ => False) := by
  refine Met.ofW (cc := cX1_hasWord) (maxL := 2) (ret := (some .boolean)) (by decide) rfl ?_
  intro p e s m args below meth c0 s₁ B hml hv
  obtain ⟨rfl, hP, hK, hD0⟩ := hv
  have hx := B.exec
  have hb := B.bytes
  have hr := B.returns
  have hts := atoms_spec (ws := wsX1_hasWord) B.pre
  have hown : s.vm.findClass RX1 = some m.cls := findClass_of_methodNamed B.named
  have hlocks := B.notSynchronized
  have hinX1 : ∀ w ∈ wsX10, w ∈ wsX1_hasWord := fun _ h => List.mem_cons_of_mem _ (List.mem_append_right _ h)
  have lk_47 : (Cond.fieldLink RX1 47 "BallotHouse$Ballot" "found" "I").before _ s = true := hts _ (by decide +kernel)
  have lk_50 : (Cond.fieldLink RX1 50 "BallotHouse$Ballot" "proposed" "I").before _ s = true := hts _ (by decide +kernel)
  have hI : bh_I D (bh_cw h ad ba c nv km (C)) (fun _ => True) s.heap s.heap [] := ⟨hP, hD0, va_S.rf⟩
  have hl := lv_entry ([.ref (ba b 0), .int (nI q)]) (n := 2) (Nat.le_of_ble_eq_true rfl)
  rw [lg_entry_eq]
  generalize (lg_sl ([.ref (ba b 0), .int (nI q)]) ++ List.replicate (2 - (lg_sl ([.ref (ba b 0), .int (nI q)])).length) Slot.unset).toArray = ls at hl ⊢
  have hl : lv_has ls 2 [(0, .ref (ba b 0)), (1, .int (nI q))] := hl
  refine lv_aload_n hx hb dX1_hasWord_0 rfl (lv_at hl 0 rfl) ?_
  refine bn_get (ci := 1) (v := .int (C.2.1 8 b)) (C := RX1) (T := TX1) (N := 14) hx hb hts hinX1 hown hK hI (10 + (5 * (b - 1) + 0)) ((bh_cw_b hb1 hb2 0 (by decide)).trans rfl) rfl 8 (by decide) lk_47 rfl (rfl) dX1_hasWord_1 ?_
  refine lv_aload_n hx hb dX1_hasWord_4 rfl (lv_at hl 0 rfl) ?_
  refine bn_get (ci := 1) (v := .int (C.2.1 9 b)) (C := RX1) (T := TX1) (N := 14) hx hb hts hinX1 hown hK hI (10 + (5 * (b - 1) + 0)) ((bh_cw_b hb1 hb2 0 (by decide)).trans rfl) rfl 9 (by decide) lk_50 rfl (rfl) dX1_hasWord_5 ?_
  refine lv_ior hx hb dX1_hasWord_8 ?_
  refine lv_iconst (v := nI 1) hx hb dX1_hasWord_9 (by decide) ?_
  refine lv_iload_n hx hb dX1_hasWord_10 rfl (lv_at hl 1 rfl) ?_
  refine lv_ishl hx hb dX1_hasWord_11 ?_
  refine lv_iand hx hb dX1_hasWord_12 ?_
  refine lv_if_eq (tgt := 20) hx hb dX1_hasWord_13 (by decide) (fun c_1 => ?_) (fun c_1 => ?_)
  · refine lv_iconst (v := nI 0) hx hb dX1_hasWord_20 (by decide) ?_
    exact bn_rotz hx hb hr hlocks (by unfold bc_hw; rw [show decide ((C.2.1 8 b ||| C.2.1 9 b) &&& bh_bit q = 0) = true from decide_eq_true c_1]; rfl) (by decide) dX1_hasWord_21
  · refine lv_iconst (v := nI 1) hx hb dX1_hasWord_16 (by decide) ?_
    refine lv_goto (tgt := 21) hx hb dX1_hasWord_17 (by decide) ?_
    exact bn_rotz hx hb hr hlocks (by unfold bc_hw; rw [show decide ((C.2.1 8 b ||| C.2.1 9 b) &&& bh_bit q = 0) = false from decide_eq_false c_1]; rfl) (by decide) dX1_hasWord_21
set_option maxHeartbeats 4000000 in
set_option maxRecDepth 100000 in
theorem cc_knows (l : Launch) (D : va_G) (c : bh_C) (h : Nat) (ad : Nat → Nat) (ba : Nat → Nat → Nat) (nv km : Nat) (C : cS) (b : Nat) (hb1 : 1 ≤ b) (hb2 : b ≤ km) (q : Nat) (hq : q < 8) : Met l yX1_knows wsX1_knows ({ frames := 1, cells := 0, slots := 0, locals := 20 }) (va_Pc [.ref (ba b 0), .int (nI q)] (bh_pre D c (bh_cw h ad ba c nv km (C)))) (vp_Si (fun r => r = bh_tf (bc_kn C b q))) 0 0 (fun _ => False) := by
  refine Met.ofW (cc := cX1_knows) (maxL := 2) (ret := (some .boolean)) (by decide) rfl ?_
  intro p e s m args below meth c0 s₁ B hml hv
  obtain ⟨rfl, hP, hK, hD0⟩ := hv
  have hx := B.exec
  have hb := B.bytes
  have hr := B.returns
  have hts := atoms_spec (ws := wsX1_knows) B.pre
  have hown : s.vm.findClass RX1 = some m.cls := findClass_of_methodNamed B.named
  have hlocks := B.notSynchronized
  have hinX1 : ∀ w ∈ wsX10, w ∈ wsX1_knows := fun _ h => List.mem_cons_of_mem _ (List.mem_append_right _ h)
  have lk_23 : (Cond.fieldLink RX1 23 "BallotHouse$Ballot" "voteAnswers" "[I").before _ s = true := hts _ (by decide +kernel)
  have lk_38 : (Cond.fieldLink RX1 38 "BallotHouse$Ballot" "w" "I").before _ s = true := hts _ (by decide +kernel)
  have hI : bh_I D (bh_cw h ad ba c nv km (C)) (fun _ => True) s.heap s.heap [] := ⟨hP, hD0, va_S.rf⟩
  have hl := lv_entry ([.ref (ba b 0), .int (nI q)]) (n := 2) (Nat.le_of_ble_eq_true rfl)
  rw [lg_entry_eq]
  generalize (lg_sl ([.ref (ba b 0), .int (nI q)]) ++ List.replicate (2 - (lg_sl ([.ref (ba b 0), .int (nI q)])).length) Slot.unset).toArray = ls at hl ⊢
  have hl : lv_has ls 2 [(0, .ref (ba b 0)), (1, .int (nI q))] := hl
  have hx1 := bh_ix_nI hq (by omega)
  refine lv_iload_n hx hb dX1_knows_0 rfl (lv_at hl 1 rfl) ?_
  refine vp_callSi (bn_roSN (As := [.int (nI q)]) (rest := []) ⟨hx, hb, hml, hown, hts⟩ (cc_isPlace l (nI q)) ⟨va_cnB 1 hts gX1_knows_X3_isPlace_n53 rfl rfl rfl hK.2.2.1 (hts (.initialized RX3) (by decide +kernel)) (by decide +kernel) ⟨Nat.le_of_ble_eq_true rfl, Nat.le_of_ble_eq_true rfl⟩, hts (.static yX3_isPlace) (by decide +kernel), trivial⟩ rfl hl.1 (Nat.le_of_ble_eq_true rfl) dX1_knows_1 ⟨Nat.le_of_ble_eq_true rfl, Nat.le_of_ble_eq_true rfl⟩) (fun r_1 er_1 => ?_)
  obtain rfl : r_1 = nI 1 := by rw [er_1, hx1]; rfl
  refine lv_if_eq (tgt := 27) hx hb dX1_knows_4 (by decide) (fun c_2 => ?_) (fun c_2 => ?_)
  · first | exact absurd c_2 (by decide) | exact absurd (by decide) c_2
  · refine lv_aload_n hx hb dX1_knows_7 rfl (lv_at hl 0 rfl) ?_
    refine bn_get (ci := 1) (v := .ref (ba b 3)) (C := RX1) (T := TX1) (N := 14) hx hb hts hinX1 hown hK hI (10 + (5 * (b - 1) + 0)) ((bh_cw_b hb1 hb2 0 (by decide)).trans rfl) rfl 12 (by decide) lk_23 rfl (rfl) dX1_knows_8 ?_
    refine lv_iload_n hx hb dX1_knows_11 rfl (lv_at hl 1 rfl) ?_
    refine bn_iald (n := 8) (v := C.2.2.1 12 b q) hx hb hK hI (10 + (5 * (b - 1) + 3)) 0 ((bh_cw_b hb1 hb2 3 (by decide)).trans rfl) rfl (by omega) (by first | decide | omega) (rfl) dX1_knows_12 ?_
    refine vp_callSi (bn_roS (As := [.int (C.2.2.1 12 b q)]) (rest := []) ⟨hx, hb, hml, hown, hts⟩ (cc_bitCount l (C.2.2.1 12 b q)) (va_cwS 1 hts gX1_knows_J6_bitCount_0f7a4 rfl rfl rfl (by decide +kernel) ⟨Nat.le_of_ble_eq_true rfl, Nat.le_of_ble_eq_true rfl⟩) rfl hl.1 (Nat.le_of_ble_eq_true rfl) dX1_knows_13 ⟨Nat.le_of_ble_eq_true rfl, Nat.le_of_ble_eq_true rfl⟩) (fun r_3 er_3 => ?_)
    subst er_3
    refine lv_aload_n hx hb dX1_knows_16 rfl (lv_at hl 0 rfl) ?_
    refine bn_get (ci := 1) (v := .int (C.2.1 3 b)) (C := RX1) (T := TX1) (N := 14) hx hb hts hinX1 hown hK hI (10 + (5 * (b - 1) + 0)) ((bh_cw_b hb1 hb2 0 (by decide)).trans rfl) rfl 3 (by decide) lk_38 rfl (rfl) dX1_knows_17 ?_
    refine lv_icmp_lt (tgt := 27) hx hb dX1_knows_20 (by decide) (fun c_4 => ?_) (fun c_4 => ?_)
    · refine lv_iconst (v := nI 0) hx hb dX1_knows_27 (by decide) ?_
      exact bn_rotz hx hb hr hlocks (by unfold bc_kn; rw [decide_eq_false (Int32.not_le.mpr c_4)]; rfl) (by decide) dX1_knows_28
    · refine lv_iconst (v := nI 1) hx hb dX1_knows_23 (by decide) ?_
      refine lv_goto (tgt := 28) hx hb dX1_knows_24 (by decide) ?_
      exact bn_rotz hx hb hr hlocks (by unfold bc_kn; rw [decide_eq_true (Int32.not_lt.mp c_4)]; rfl) (by decide) dX1_knows_28
set_option maxHeartbeats 4000000 in
set_option maxRecDepth 100000 in
theorem cc_hasChosen (l : Launch) (D : va_G) (c : bh_C) (h : Nat) (ad : Nat → Nat) (ba : Nat → Nat → Nat) (nv km : Nat) (C : cS) (b : Nat) (hb1 : 1 ≤ b) (hb2 : b ≤ km) (q : Nat) (hq : q < 8) : Met l yX1_hasChosen wsX1_hasChosen ({ frames := 1, cells := 0, slots := 0, locals := 20 }) (va_Pc [.ref (ba b 0), .int (nI q)] (bh_pre D c (bh_cw h ad ba c nv km (C)))) (vp_Si (fun r => r = bh_tf (bc_hc C b q))) 0 0 (fun _ => False) := by
  refine Met.ofW (cc := cX1_hasChosen) (maxL := 2) (ret := (some .boolean)) (by decide) rfl ?_
  intro p e s m args below meth c0 s₁ B hml hv
  obtain ⟨rfl, hP, hK, hD0⟩ := hv
  have hx := B.exec
  have hb := B.bytes
  have hr := B.returns
  have hts := atoms_spec (ws := wsX1_hasChosen) B.pre
  have hown : s.vm.findClass RX1 = some m.cls := findClass_of_methodNamed B.named
  have hlocks := B.notSynchronized
  have hinX1 : ∀ w ∈ wsX10, w ∈ wsX1_hasChosen := fun _ h => List.mem_cons_of_mem _ (List.mem_append_right _ h)
  have lk_26 : (Cond.fieldLink RX1 26 "BallotHouse$Ballot" "everVoted" "[I").before _ s = true := hts _ (by decide +kernel)
  have lk_38 : (Cond.fieldLink RX1 38 "BallotHouse$Ballot" "w" "I").before _ s = true := hts _ (by decide +kernel)
  have hI : bh_I D (bh_cw h ad ba c nv km (C)) (fun _ => True) s.heap s.heap [] := ⟨hP, hD0, va_S.rf⟩
  have hl := lv_entry ([.ref (ba b 0), .int (nI q)]) (n := 2) (Nat.le_of_ble_eq_true rfl)
  rw [lg_entry_eq]
  generalize (lg_sl ([.ref (ba b 0), .int (nI q)]) ++ List.replicate (2 - (lg_sl ([.ref (ba b 0), .int (nI q)])).length) Slot.unset).toArray = ls at hl ⊢
  have hl : lv_has ls 2 [(0, .ref (ba b 0)), (1, .int (nI q))] := hl
  have hx1 := bh_ix_nI hq (by omega)
  refine lv_iload_n hx hb dX1_hasChosen_0 rfl (lv_at hl 1 rfl) ?_
  refine vp_callSi (bn_roSN (As := [.int (nI q)]) (rest := []) ⟨hx, hb, hml, hown, hts⟩ (cc_isPlace l (nI q)) ⟨va_cnB 1 hts gX1_hasChosen_X3_isPlace_n53 rfl rfl rfl hK.2.2.1 (hts (.initialized RX3) (by decide +kernel)) (by decide +kernel) ⟨Nat.le_of_ble_eq_true rfl, Nat.le_of_ble_eq_true rfl⟩, hts (.static yX3_isPlace) (by decide +kernel), trivial⟩ rfl hl.1 (Nat.le_of_ble_eq_true rfl) dX1_hasChosen_1 ⟨Nat.le_of_ble_eq_true rfl, Nat.le_of_ble_eq_true rfl⟩) (fun r_1 er_1 => ?_)
  obtain rfl : r_1 = nI 1 := by rw [er_1, hx1]; rfl
  refine lv_if_eq (tgt := 27) hx hb dX1_hasChosen_4 (by decide) (fun c_2 => ?_) (fun c_2 => ?_)
  · first | exact absurd c_2 (by decide) | exact absurd (by decide) c_2
  · refine lv_aload_n hx hb dX1_hasChosen_7 rfl (lv_at hl 0 rfl) ?_
    refine bn_get (ci := 1) (v := .ref (ba b 4)) (C := RX1) (T := TX1) (N := 14) hx hb hts hinX1 hown hK hI (10 + (5 * (b - 1) + 0)) ((bh_cw_b hb1 hb2 0 (by decide)).trans rfl) rfl 13 (by decide) lk_26 rfl (rfl) dX1_hasChosen_8 ?_
    refine lv_iload_n hx hb dX1_hasChosen_11 rfl (lv_at hl 1 rfl) ?_
    refine bn_iald (n := 8) (v := C.2.2.1 13 b q) hx hb hK hI (10 + (5 * (b - 1) + 4)) 0 ((bh_cw_b hb1 hb2 4 (by decide)).trans rfl) rfl (by omega) (by first | decide | omega) (rfl) dX1_hasChosen_12 ?_
    refine vp_callSi (bn_roS (As := [.int (C.2.2.1 13 b q)]) (rest := []) ⟨hx, hb, hml, hown, hts⟩ (cc_bitCount l (C.2.2.1 13 b q)) (va_cwS 1 hts gX1_hasChosen_J6_bitCount_0f7a4 rfl rfl rfl (by decide +kernel) ⟨Nat.le_of_ble_eq_true rfl, Nat.le_of_ble_eq_true rfl⟩) rfl hl.1 (Nat.le_of_ble_eq_true rfl) dX1_hasChosen_13 ⟨Nat.le_of_ble_eq_true rfl, Nat.le_of_ble_eq_true rfl⟩) (fun r_3 er_3 => ?_)
    subst er_3
    refine lv_aload_n hx hb dX1_hasChosen_16 rfl (lv_at hl 0 rfl) ?_
    refine bn_get (ci := 1) (v := .int (C.2.1 3 b)) (C := RX1) (T := TX1) (N := 14) hx hb hts hinX1 hown hK hI (10 + (5 * (b - 1) + 0)) ((bh_cw_b hb1 hb2 0 (by decide)).trans rfl) rfl 3 (by decide) lk_38 rfl (rfl) dX1_hasChosen_17 ?_
    refine lv_icmp_lt (tgt := 27) hx hb dX1_hasChosen_20 (by decide) (fun c_4 => ?_) (fun c_4 => ?_)
    · refine lv_iconst (v := nI 0) hx hb dX1_hasChosen_27 (by decide) ?_
      exact bn_rotz hx hb hr hlocks (by unfold bc_hc; rw [decide_eq_false (Int32.not_le.mpr c_4)]; rfl) (by decide) dX1_hasChosen_28
    · refine lv_iconst (v := nI 1) hx hb dX1_hasChosen_23 (by decide) ?_
      refine lv_goto (tgt := 28) hx hb dX1_hasChosen_24 (by decide) ?_
      exact bn_rotz hx hb hr hlocks (by unfold bc_hc; rw [decide_eq_true (Int32.not_lt.mp c_4)]; rfl) (by decide) dX1_hasChosen_28
set_option maxHeartbeats 4000000 in
set_option maxRecDepth 100000 in
theorem cc_knownPlaces (l : Launch) (D : va_G) (c : bh_C) (h : Nat) (ad : Nat → Nat) (ba : Nat → Nat → Nat) (nv km : Nat) (C : cS) (b : Nat) (hb1 : 1 ≤ b) (hb2 : b ≤ km) : Met l yX1_knownPlaces wsX1_knownPlaces ({ frames := 2, cells := 0, slots := 0, locals := 41 }) (va_Pc [.ref (ba b 0)] (bh_pre D c (bh_cw h ad ba c nv km (C)))) (vp_Si (fun r => r = bc_kp C b)) 0 0 (fun _ => False) := by
  refine Met.ofW (cc := cX1_knownPlaces) (maxL := 3) (ret := (some .int)) (by decide) rfl ?_
  intro p e s m args below meth c0 s₁ B hml hv
  obtain ⟨rfl, hP, hK, hD0⟩ := hv
  have hx := B.exec
  have hb := B.bytes
  have hr := B.returns
  have hts := atoms_spec (ws := wsX1_knownPlaces) B.pre
  have hown : s.vm.findClass RX1 = some m.cls := findClass_of_methodNamed B.named
  have hlocks := B.notSynchronized
  have hinX1 : ∀ w ∈ wsX10, w ∈ wsX1_knownPlaces := fun _ h => List.mem_cons_of_mem _ (List.mem_append_right _ h)
  have hI : bh_I D (bh_cw h ad ba c nv km (C)) (fun _ => True) s.heap s.heap [] := ⟨hP, hD0, va_S.rf⟩
  have hl := lv_entry ([.ref (ba b 0)]) (n := 3) (Nat.le_of_ble_eq_true rfl)
  rw [lg_entry_eq]
  generalize (lg_sl ([.ref (ba b 0)]) ++ List.replicate (3 - (lg_sl ([.ref (ba b 0)])).length) Slot.unset).toArray = ls at hl ⊢
  have hl : lv_has ls 3 [(0, .ref (ba b 0))] := hl
  refine lv_iconst (v := nI 0) hx hb dX1_knownPlaces_0 (by decide) ?_
  refine lv_istore_n (lv' := [(1, .int (nI 0)), (0, .ref (ba b 0))]) hx hb dX1_knownPlaces_1 rfl hl (by decide) rfl (fun ls hl => ?_)
  refine lv_iconst (v := nI 0) hx hb dX1_knownPlaces_2 (by decide) ?_
  refine lv_istore_n (lv' := [(2, .int (nI 0)), (1, .int (nI 0)), (0, .ref (ba b 0))]) hx hb dX1_knownPlaces_3 rfl hl (by decide) rfl (fun ls hl => ?_)
  refine bh_loop (σ := Nat) (fun (q : Nat) H locs ls => H = s.heap ∧ locs = [] ∧ q ≤ 8 ∧ lv_has ls 3 [(2, .int (nI q)), (1, .int (bc_kpL C b q)), (0, .ref (ba b 0))]) (fun (q : Nat) => 8 - q) (fun q H locs ls hx_1 ih_1 => ?_) 0 _ _ _ ⟨rfl, rfl, Nat.zero_le 8, lv_sub hl [0, 1, 2] rfl⟩
  clear hl
  obtain ⟨rfl, rfl, hq, hl⟩ := hx_1
  refine lv_iload_n hx hb dX1_knownPlaces_4 rfl (lv_at hl 0 rfl) ?_
  refine lv_bipush (v := nI 8) hx hb dX1_knownPlaces_5 (by decide) ?_
  refine bn_cmp_ge (tgt := 30) hx hb (by omega) (by omega) dX1_knownPlaces_7 (by decide) (fun c_2 => ?_) (fun c_2 => ?_)
  · refine lv_iload_n hx hb dX1_knownPlaces_30 rfl (lv_at hl 1 rfl) ?_
    exact bn_roti hx hb hr hlocks (by unfold bc_kp; rw [show q = 8 by omega]) dX1_knownPlaces_31
  · refine lv_aload_n hx hb dX1_knownPlaces_10 rfl (lv_at hl 2 rfl) ?_
    refine lv_iload_n hx hb dX1_knownPlaces_11 rfl (lv_at hl 0 rfl) ?_
    refine vp_callSi (bn_roV (As := [.int (nI q)]) (rest := []) ⟨hx, hb, hml, hown, hts⟩ (cc_knows l D c h ad ba nv km C b hb1 hb2 q (by omega)) (cwV 1 hts gX1_knownPlaces_X1_knows rfl rfl rfl (by decide +kernel) ⟨Nat.le_of_ble_eq_true rfl, Nat.le_of_ble_eq_true rfl⟩) hK hI (10 + (5 * (b - 1) + 0)) 1 rfl rfl ((bh_cw_b hb1 hb2 0 (by decide)).trans rfl) rfl hl.1 (Nat.le_of_ble_eq_true rfl) dX1_knownPlaces_12 ⟨Nat.le_of_ble_eq_true rfl, Nat.le_of_ble_eq_true rfl⟩) (fun r_3 er_3 => ?_)
    subst er_3
    refine lv_if_eq (tgt := 24) hx hb dX1_knownPlaces_15 (by decide) (fun c_4 => ?_) (fun c_4 => ?_)
    · refine lv_iinc (v := nI (q + 1)) (lv' := [(2, .int (nI (q + 1))), (1, .int (bc_kpL C b q)), (0, .ref (ba b 0))]) hx hb dX1_knownPlaces_24 hl (k := 0) rfl (nI_1 _) (by decide) rfl (fun ls hl => ?_)
      refine lv_goto (tgt := 4) hx hb dX1_knownPlaces_27 (by decide) ?_
      exact ih_1 (q + 1) _ _ _ ⟨rfl, rfl, by omega, (by rw [show bc_kpL C b (q + 1) = _ from if_neg (by rw [bh_tf_eq c_4]; decide)]; exact (lv_sub hl [0, 1, 2] rfl))⟩ (by show 8 - (q + 1) < 8 - q; omega)
    · refine lv_iload_n hx hb dX1_knownPlaces_18 rfl (lv_at hl 1 rfl) ?_
      refine lv_iconst (v := nI 1) hx hb dX1_knownPlaces_19 (by decide) ?_
      refine lv_iload_n hx hb dX1_knownPlaces_20 rfl (lv_at hl 0 rfl) ?_
      refine lv_ishl hx hb dX1_knownPlaces_21 ?_
      refine lv_ior hx hb dX1_knownPlaces_22 ?_
      refine lv_istore_n (lv' := [(1, .int ((bc_kpL C b q) ||| ((nI 1) <<< ((nI q) &&& 31)))), (2, .int (nI q)), (0, .ref (ba b 0))]) hx hb dX1_knownPlaces_23 rfl hl (by decide) rfl (fun ls hl => ?_)
      refine lv_iinc (v := nI (q + 1)) (lv' := [(2, .int (nI (q + 1))), (1, .int ((bc_kpL C b q) ||| ((nI 1) <<< ((nI q) &&& 31)))), (0, .ref (ba b 0))]) hx hb dX1_knownPlaces_24 hl (k := 1) rfl (nI_1 _) (by decide) rfl (fun ls hl => ?_)
      refine lv_goto (tgt := 4) hx hb dX1_knownPlaces_27 (by decide) ?_
      exact ih_1 (q + 1) _ _ _ ⟨rfl, rfl, by omega, (by rw [show bc_kpL C b (q + 1) = _ from if_pos (bh_tf_ne c_4)]; exact (lv_sub hl [0, 1, 2] rfl))⟩ (by show 8 - (q + 1) < 8 - q; omega)
set_option maxHeartbeats 4000000 in
set_option maxRecDepth 100000 in
theorem cc_findN (l : Launch) (D : va_G) (c : bh_C) (h : Nat) (ad : Nat → Nat) (ba : Nat → Nat → Nat) (nv km : Nat) (C : cS) (x : Int32) (hx1 : bh_ixb x km = none) (hk24 : km ≤ 24) : Met l yX3_find wsX3_find ({ frames := 0, cells := 0, slots := 0, locals := 0 }) (va_Pc [.ref h, .int (x)] (bh_pre D c (bh_cw h ad ba c nv km (C)))) (va_Sq (fun r => r = none)) 0 0 (fun _ => False) := by
  refine Met.ofW (cc := cX3_find) (maxL := 2) (ret := (some (.object "BallotHouse$Ballot"))) (by decide) rfl ?_
  intro p e s m args below meth c0 s₁ B hml hv
  obtain ⟨rfl, hP, hK, hD0⟩ := hv
  have hx := B.exec
  have hb := B.bytes
  have hr := B.returns
  have hts := atoms_spec (ws := wsX3_find) B.pre
  have hown : s.vm.findClass RX3 = some m.cls := findClass_of_methodNamed B.named
  have hlocks := B.notSynchronized
  have hinX3 : ∀ w ∈ wsX30, w ∈ wsX3_find := fun _ h => List.mem_cons_of_mem _ (List.mem_append_right _ h)
  have lk_43 : (Cond.fieldLink RX3 43 "BallotHouse" "made" "I").before _ s = true := hts _ (by decide +kernel)
  have hI : bh_I D (bh_cw h ad ba c nv km (C)) (fun _ => True) s.heap s.heap [] := ⟨hP, hD0, va_S.rf⟩
  have hl := lv_entry ([.ref h, .int (x)]) (n := 2) (Nat.le_of_ble_eq_true rfl)
  rw [lg_entry_eq]
  generalize (lg_sl ([.ref h, .int (x)]) ++ List.replicate (2 - (lg_sl ([.ref h, .int (x)])).length) Slot.unset).toArray = ls at hl ⊢
  have hl : lv_has ls 2 [(0, .ref h), (1, .int (x))] := hl
  refine lv_iload_n hx hb dX3_find_0 rfl (lv_at hl 1 rfl) ?_
  refine lv_iconst (v := nI 1) hx hb dX3_find_1 (by decide) ?_
  refine lv_icmp_lt (tgt := 30) hx hb dX3_find_2 (by decide) (fun c_1 => ?_) (fun c_1 => ?_)
  · refine lv_null hx hb dX3_find_30 ?_
    exact bn_rota (r := none) hx hb hr hlocks rfl (rfl) dX3_find_31
  · refine lv_iload_n hx hb dX3_find_5 rfl (lv_at hl 1 rfl) ?_
    refine lv_aload_n hx hb dX3_find_6 rfl (lv_at hl 0 rfl) ?_
    refine bn_get (ci := 2) (v := .int (nI km)) (C := RX3) (T := TX3) (N := 8) hx hb hts hinX3 hown hK hI 0 rfl rfl 5 (by decide) lk_43 rfl (rfl) dX3_find_7 ?_
    refine lv_icmp_gt (tgt := 30) hx hb dX3_find_10 (by decide) (fun c_2 => ?_) (fun c_2 => ?_)
    · refine lv_null hx hb dX3_find_30 ?_
      exact bn_rota (r := none) hx hb hr hlocks rfl (rfl) dX3_find_31
    · refine lv_iload_n hx hb dX3_find_13 rfl (lv_at hl 1 rfl) ?_
      refine lv_bipush (v := nI 24) hx hb dX3_find_14 (by decide) ?_
      refine lv_icmp_gt (tgt := 30) hx hb dX3_find_16 (by decide) (fun c_3 => ?_) (fun c_3 => ?_)
      · refine lv_null hx hb dX3_find_30 ?_
        exact bn_rota (r := none) hx hb hr hlocks rfl (rfl) dX3_find_31
      · exfalso
        have q1 := bh_ixb_none hx1
        have q2 := c_1
        have q3 := c_2
        have q4 := c_3
        simp only [bh_ltI, bh_leI, nI_toInt (show 1 < 2 ^ 31 by omega), nI_toInt (show 24 < 2 ^ 31 by omega), nI_toInt (show km < 2 ^ 31 by omega)] at q2 q3 q4
        omega
set_option maxHeartbeats 4000000 in
set_option maxRecDepth 100000 in
theorem cc_find (l : Launch) (D : va_G) (c : bh_C) (h : Nat) (ad : Nat → Nat) (ba : Nat → Nat → Nat) (nv km : Nat) (C : cS) (b : Nat) (hb1 : 1 ≤ b) (hb2 : b ≤ km) (hk24 : km ≤ 24) : Met l yX3_find wsX3_find ({ frames := 0, cells := 0, slots := 0, locals := 0 }) (va_Pc [.ref h, .int (nI b)] (bh_pre D c (bh_cw h ad ba c nv km (C)))) (va_Sq (fun r => r = some (ba b 0))) 0 0 (fun _ => False) := by
  refine Met.ofW (cc := cX3_find) (maxL := 2) (ret := (some (.object "BallotHouse$Ballot"))) (by decide) rfl ?_
  intro p e s m args below meth c0 s₁ B hml hv
  obtain ⟨rfl, hP, hK, hD0⟩ := hv
  have hx := B.exec
  have hb := B.bytes
  have hr := B.returns
  have hts := atoms_spec (ws := wsX3_find) B.pre
  have hown : s.vm.findClass RX3 = some m.cls := findClass_of_methodNamed B.named
  have hlocks := B.notSynchronized
  have hinX3 : ∀ w ∈ wsX30, w ∈ wsX3_find := fun _ h => List.mem_cons_of_mem _ (List.mem_append_right _ h)
  have lk_32 : (Cond.fieldLink RX3 32 "BallotHouse" "ballots" "[LBallotHouse$Ballot;").before _ s = true := hts _ (by decide +kernel)
  have lk_43 : (Cond.fieldLink RX3 43 "BallotHouse" "made" "I").before _ s = true := hts _ (by decide +kernel)
  have hI : bh_I D (bh_cw h ad ba c nv km (C)) (fun _ => True) s.heap s.heap [] := ⟨hP, hD0, va_S.rf⟩
  have hl := lv_entry ([.ref h, .int (nI b)]) (n := 2) (Nat.le_of_ble_eq_true rfl)
  rw [lg_entry_eq]
  generalize (lg_sl ([.ref h, .int (nI b)]) ++ List.replicate (2 - (lg_sl ([.ref h, .int (nI b)])).length) Slot.unset).toArray = ls at hl ⊢
  have hl : lv_has ls 2 [(0, .ref h), (1, .int (nI b))] := hl
  refine lv_iload_n hx hb dX3_find_0 rfl (lv_at hl 1 rfl) ?_
  refine lv_iconst (v := nI 1) hx hb dX3_find_1 (by decide) ?_
  refine bn_cmp_lt (tgt := 30) hx hb (by omega) (by omega) dX3_find_2 (by decide) (fun c_1 => ?_) (fun c_1 => ?_)
  · exact absurd c_1 (by omega)
  · refine lv_iload_n hx hb dX3_find_5 rfl (lv_at hl 1 rfl) ?_
    refine lv_aload_n hx hb dX3_find_6 rfl (lv_at hl 0 rfl) ?_
    refine bn_get (ci := 2) (v := .int (nI km)) (C := RX3) (T := TX3) (N := 8) hx hb hts hinX3 hown hK hI 0 rfl rfl 5 (by decide) lk_43 rfl (rfl) dX3_find_7 ?_
    refine bn_cmp_gt (tgt := 30) hx hb (by omega) (by omega) dX3_find_10 (by decide) (fun c_2 => ?_) (fun c_2 => ?_)
    · exact absurd c_2 (by omega)
    · refine lv_iload_n hx hb dX3_find_13 rfl (lv_at hl 1 rfl) ?_
      refine lv_bipush (v := nI 24) hx hb dX3_find_14 (by decide) ?_
      refine bn_cmp_gt (tgt := 30) hx hb (by omega) (by omega) dX3_find_16 (by decide) (fun c_3 => ?_) (fun c_3 => ?_)
      · exact absurd c_3 (by omega)
      · refine lv_aload_n hx hb dX3_find_19 rfl (lv_at hl 0 rfl) ?_
        refine bn_get (ci := 2) (v := .ref (ad 4)) (C := RX3) (T := TX3) (N := 8) hx hb hts hinX3 hown hK hI 0 rfl rfl 4 (by decide) lk_32 rfl (rfl) dX3_find_20 ?_
        refine lv_iload_n hx hb dX3_find_23 rfl (lv_at hl 1 rfl) ?_
        refine lv_iconst (v := nI 1) hx hb dX3_find_24 (by decide) ?_
        refine bn_isub hx hb (by omega) dX3_find_25 ?_
        refine bn_aald (n := 24) (v := .ref (ba b 0)) hx hb hK hI 3 3 rfl rfl (by omega) (by first | decide | omega) (by unfold bh_bref; rw [if_pos (by omega), show b - 1 + 1 = b by omega]; rfl) dX3_find_26 ?_
        refine lv_goto (tgt := 31) hx hb dX3_find_27 (by decide) ?_
        exact bn_rota (r := some (ba b 0)) hx hb hr hlocks rfl (rfl) dX3_find_31
