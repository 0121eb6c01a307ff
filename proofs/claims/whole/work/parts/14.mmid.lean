set_option maxHeartbeats 4000000 in
set_option maxRecDepth 100000 in
theorem cm_firstRead (l : Launch) (D : va_G) (c : bh_C) (h : Nat) (ad : Nat → Nat) (S : mS) (b : Nat) (h24 : b ≤ 24) (g : Nat) (hg : S.2.2.1 9 b = nI g) (hg24 : g ≤ 24) : Met l yX4_firstRead wsX4_firstRead ({ frames := 0, cells := 0, slots := 0, locals := 0 }) (va_Pc [.ref h, .int (nI b)] (bh_pre D c (bh_mw h ad c (S)))) (vp_Si (fun r => r = nI (bh_fr g))) 0 0 (fun _ => False) := by
  refine Met.ofW (cc := cX4_firstRead) (maxL := 2) (ret := (some .int)) (by decide) rfl ?_
  intro p e s m args below meth c0 s₁ B hml hv
  obtain ⟨rfl, hP, hK, hD0⟩ := hv
  have hx := B.exec
  have hb := B.bytes
  have hr := B.returns
  have hts := atoms_spec (ws := wsX4_firstRead) B.pre
  have hown : s.vm.findClass RX4 = some m.cls := findClass_of_methodNamed B.named
  have hlocks := B.notSynchronized
  have hinX4 : ∀ w ∈ wsX40, w ∈ wsX4_firstRead := fun _ h => List.mem_cons_of_mem _ (List.mem_append_right _ h)
  have lk_36 : (Cond.fieldLink RX4 36 "BallotHouseModel" "behind" "[I").before _ s = true := hts _ (by decide +kernel)
  have hI : bh_I D (bh_mw h ad c (S)) (fun _ => True) s.heap s.heap [] := ⟨hP, hD0, va_S.rf⟩
  have hl := lv_entry ([.ref h, .int (nI b)]) (n := 2) (Nat.le_of_ble_eq_true rfl)
  rw [lg_entry_eq]
  generalize (lg_sl ([.ref h, .int (nI b)]) ++ List.replicate (2 - (lg_sl ([.ref h, .int (nI b)])).length) Slot.unset).toArray = ls at hl ⊢
  have hl : lv_has ls 2 [(0, .ref h), (1, .int (nI b))] := hl
  refine lv_aload_n hx hb dX4_firstRead_0 rfl (lv_at hl 0 rfl) ?_
  refine bn_get (ci := 3) (v := .ref (ad 9)) (C := RX4) (T := TX4) (N := 31) hx hb hts hinX4 hown hK hI 0 rfl rfl 9 (by decide) lk_36 rfl (rfl) dX4_firstRead_1 ?_
  refine lv_iload_n hx hb dX4_firstRead_4 rfl (lv_at hl 1 rfl) ?_
  refine bn_iald (n := 25) (v := nI g) hx hb hK hI 9 0 rfl rfl (by omega) (by first | decide | omega) (hg) dX4_firstRead_5 ?_
  refine lv_if_ne (tgt := 13) hx hb dX4_firstRead_6 (by decide) (fun c_1 => ?_) (fun c_1 => ?_)
  · have hg0 : ¬ g = 0 := fun q => c_1 (by rw [q]; rfl)
    refine lv_aload_n hx hb dX4_firstRead_13 rfl (lv_at hl 0 rfl) ?_
    refine bn_get (ci := 3) (v := .ref (ad 9)) (C := RX4) (T := TX4) (N := 31) hx hb hts hinX4 hown hK hI 0 rfl rfl 9 (by decide) lk_36 rfl (rfl) dX4_firstRead_14 ?_
    refine lv_iload_n hx hb dX4_firstRead_17 rfl (lv_at hl 1 rfl) ?_
    refine bn_iald (n := 25) (v := nI g) hx hb hK hI 9 0 rfl rfl (by omega) (by first | decide | omega) (hg) dX4_firstRead_18 ?_
    exact bn_roti hx hb hr hlocks (by unfold bh_fr; rw [if_neg hg0]) dX4_firstRead_19
  · have hg0 : g = 0 := (nI_eq (by omega) (by decide)).mp (c_1 : nI g = nI 0)
    refine lv_iconst (v := nI 1) hx hb dX4_firstRead_9 (by decide) ?_
    refine lv_goto (tgt := 19) hx hb dX4_firstRead_10 (by decide) ?_
    exact bn_roti hx hb hr hlocks (by unfold bh_fr; rw [if_pos hg0]) dX4_firstRead_19
set_option maxHeartbeats 4000000 in
set_option maxRecDepth 100000 in
theorem cm_asked (l : Launch) (D : va_G) (c : bh_C) (h : Nat) (ad : Nat → Nat) (S : mS) (b : Nat) (h24 : b ≤ 24) (g : Nat) (hg : S.2.2.1 9 b = nI g) (hg24 : g ≤ 24) : Met l yX4_asked wsX4_asked ({ frames := 1, cells := 0, slots := 0, locals := 21 }) (va_Pc [.ref h, .int (nI b)] (bh_pre D c (bh_mw h ad c (S)))) (vp_Si (fun r => r = bh_ask S b g)) 0 0 (fun _ => False) := by
  refine Met.ofW (cc := cX4_asked) (maxL := 4) (ret := (some .int)) (by decide) rfl ?_
  intro p e s m args below meth c0 s₁ B hml hv
  obtain ⟨rfl, hP, hK, hD0⟩ := hv
  have hx := B.exec
  have hb := B.bytes
  have hr := B.returns
  have hts := atoms_spec (ws := wsX4_asked) B.pre
  have hown : s.vm.findClass RX4 = some m.cls := findClass_of_methodNamed B.named
  have hlocks := B.notSynchronized
  have hinX4 : ∀ w ∈ wsX40, w ∈ wsX4_asked := fun _ h => List.mem_cons_of_mem _ (List.mem_append_right _ h)
  have lk_27 : (Cond.fieldLink RX4 27 "BallotHouseModel" "members" "[I").before _ s = true := hts _ (by decide +kernel)
  have hI : bh_I D (bh_mw h ad c (S)) (fun _ => True) s.heap s.heap [] := ⟨hP, hD0, va_S.rf⟩
  have hl := lv_entry ([.ref h, .int (nI b)]) (n := 4) (Nat.le_of_ble_eq_true rfl)
  rw [lg_entry_eq]
  generalize (lg_sl ([.ref h, .int (nI b)]) ++ List.replicate (4 - (lg_sl ([.ref h, .int (nI b)])).length) Slot.unset).toArray = ls at hl ⊢
  have hl : lv_has ls 4 [(0, .ref h), (1, .int (nI b))] := hl
  have hf := bh_fr_le hg24
  refine lv_iconst (v := nI 0) hx hb dX4_asked_0 (by decide) ?_
  refine lv_istore_n (lv' := [(2, .int (nI 0)), (0, .ref h), (1, .int (nI b))]) hx hb dX4_asked_1 rfl hl (by decide) rfl (fun ls hl => ?_)
  refine lv_aload_n hx hb dX4_asked_2 rfl (lv_at hl 1 rfl) ?_
  refine lv_iload_n hx hb dX4_asked_3 rfl (lv_at hl 2 rfl) ?_
  refine vp_callSi (bn_roV (As := [.int (nI b)]) (rest := []) ⟨hx, hb, hml, hown, hts⟩ (cm_firstRead l D c h ad S b h24 g hg hg24) (cwV 1 hts gX4_asked_X4_firstRead rfl rfl rfl (by decide +kernel) ⟨Nat.le_of_ble_eq_true rfl, Nat.le_of_ble_eq_true rfl⟩) hK hI 0 3 rfl rfl rfl rfl hl.1 (Nat.le_of_ble_eq_true rfl) dX4_asked_4 ⟨Nat.le_of_ble_eq_true rfl, Nat.le_of_ble_eq_true rfl⟩) (fun r_1 er_1 => ?_)
  subst er_1
  refine lv_istore_n (lv' := [(3, .int (nI (bh_fr g))), (2, .int (nI 0)), (0, .ref h), (1, .int (nI b))]) hx hb dX4_asked_7 rfl hl (by decide) rfl (fun ls hl => ?_)
  refine bh_loop (σ := Nat) (fun (d : Nat) H locs ls => H = s.heap ∧ locs = [] ∧ d ≤ b - bh_fr g ∧ lv_has ls 4 [(3, .int (nI (bh_fr g + d))), (2, .int (bh_askL S (bh_fr g) d)), (0, .ref h), (1, .int (nI b))]) (fun (d : Nat) => b - bh_fr g - d) (fun d H locs ls hx_2 ih_2 => ?_) 0 _ _ _ ⟨rfl, rfl, Nat.zero_le _, lv_sub hl [0, 1, 2, 3] rfl⟩
  clear hl
  obtain ⟨rfl, rfl, hd, hl⟩ := hx_2
  refine lv_iload_n hx hb dX4_asked_8 rfl (lv_at hl 0 rfl) ?_
  refine lv_iload_n hx hb dX4_asked_9 rfl (lv_at hl 3 rfl) ?_
  refine bn_cmp_ge (tgt := 28) hx hb (by omega) (by omega) dX4_asked_10 (by decide) (fun c_3 => ?_) (fun c_3 => ?_)
  · refine lv_iload_n hx hb dX4_asked_28 rfl (lv_at hl 1 rfl) ?_
    exact bn_roti hx hb hr hlocks (by unfold bh_ask; rw [show d = b - bh_fr g by omega]) dX4_asked_29
  · refine lv_iload_n hx hb dX4_asked_13 rfl (lv_at hl 1 rfl) ?_
    refine lv_aload_n hx hb dX4_asked_14 rfl (lv_at hl 2 rfl) ?_
    refine bn_get (ci := 3) (v := .ref (ad 6)) (C := RX4) (T := TX4) (N := 31) hx hb hts hinX4 hown hK hI 0 rfl rfl 6 (by decide) lk_27 rfl (rfl) dX4_asked_15 ?_
    refine lv_iload_n hx hb dX4_asked_18 rfl (lv_at hl 0 rfl) ?_
    refine bn_iald (n := 25) (v := S.2.2.1 6 (bh_fr g + d)) hx hb hK hI 6 0 rfl rfl (by omega) (by first | decide | omega) (rfl) dX4_asked_19 ?_
    refine lv_ior hx hb dX4_asked_20 ?_
    refine lv_istore_n (lv' := [(2, .int ((bh_askL S (bh_fr g) d) ||| (S.2.2.1 6 (bh_fr g + d)))), (3, .int (nI (bh_fr g + d))), (0, .ref h), (1, .int (nI b))]) hx hb dX4_asked_21 rfl hl (by decide) rfl (fun ls hl => ?_)
    refine lv_iinc (v := nI (bh_fr g + d + 1)) (lv' := [(3, .int (nI (bh_fr g + d + 1))), (2, .int ((bh_askL S (bh_fr g) d) ||| (S.2.2.1 6 (bh_fr g + d)))), (0, .ref h), (1, .int (nI b))]) hx hb dX4_asked_22 hl (k := 1) rfl (nI_1 _) (by decide) rfl (fun ls hl => ?_)
    refine lv_goto (tgt := 8) hx hb dX4_asked_25 (by decide) ?_
    exact ih_2 (d + 1) _ _ _ ⟨rfl, rfl, by omega, lv_sub hl [0, 1, 2, 3] rfl⟩ (by show b - bh_fr g - (d + 1) < b - bh_fr g - d; omega)
set_option maxHeartbeats 4000000 in
set_option maxRecDepth 100000 in
theorem cm_sendReads (l : Launch) (D : va_G) (c : bh_C) (h : Nat) (ad : Nat → Nat) (sz : Nat) (S : mS) (b : Nat) (h24 : b ≤ 24) (g : Nat) (hg : S.2.2.1 9 b = nI g) (hg24 : g ≤ 24) (ha : S.1 28 ≤ 400) (hn : S.1 0 ≤ 7) : Met l yX4_sendReads wsX4_sendReads ({ frames := 2, cells := 0, slots := 0, locals := 44 }) (va_Pc [.ref h, .int (nI b)] (bh_prm D c (bh_mw h ad c (S)) sz)) (va_Qi (fun (r : Int32) (u : mS) => r = nI (bh_sr S b g).1 ∧ u = (bh_sr S b g).2) (fun u t => bh_post D c (bh_mw h ad c u) (va_A (bh_mw h ad c (S)) sz) t) (va_A (bh_mw h ad c (S)) sz)) 0 0 (va_A (bh_mw h ad c (S)) sz) := by
  refine Met.ofW (cc := cX4_sendReads) (maxL := 4) (ret := (some .int)) (by decide) rfl ?_
  intro p e s m args below meth c0 s₁ B hml hv
  obtain ⟨rfl, hsz, hP, hK, hD0⟩ := hv
  have hx := B.exec
  have hb := B.bytes
  have hr := B.returns
  have hts := atoms_spec (ws := wsX4_sendReads) B.pre
  have hown : s.vm.findClass RX4 = some m.cls := findClass_of_methodNamed B.named
  have hlocks := B.notSynchronized
  have hinX4 : ∀ w ∈ wsX40, w ∈ wsX4_sendReads := fun _ h => List.mem_cons_of_mem _ (List.mem_append_right _ h)
  have lk_39 : (Cond.fieldLink RX4 39 "BallotHouseModel" "readers" "[I").before _ s = true := hts _ (by decide +kernel)
  have lk_90 : (Cond.fieldLink RX4 90 "BallotHouseModel" "voters" "I").before _ s = true := hts _ (by decide +kernel)
  subst hsz
  have hI := bh_start hP hD0
  generalize hAe : va_A (bh_mw h ad c (S)) s.heap.size = A at hI ⊢
  have hA : ∀ q : Nat, s.heap.size ≤ q → A q := fun q h => by rw [← hAe]; exact Or.inr h
  clear hP hD0 hAe
  have hl := lv_entry ([.ref h, .int (nI b)]) (n := 4) (Nat.le_of_ble_eq_true rfl)
  rw [lg_entry_eq]
  generalize (lg_sl ([.ref h, .int (nI b)]) ++ List.replicate (4 - (lg_sl ([.ref h, .int (nI b)])).length) Slot.unset).toArray = ls at hl ⊢
  have hl : lv_has ls 4 [(0, .ref h), (1, .int (nI b))] := hl
  refine lv_iconst (v := nI 0) hx hb dX4_sendReads_0 (by decide) ?_
  refine lv_istore_n (lv' := [(2, .int (nI 0)), (0, .ref h), (1, .int (nI b))]) hx hb dX4_sendReads_1 rfl hl (by decide) rfl (fun ls hl => ?_)
  refine lv_iconst (v := nI 0) hx hb dX4_sendReads_2 (by decide) ?_
  refine lv_istore_n (lv' := [(3, .int (nI 0)), (2, .int (nI 0)), (0, .ref h), (1, .int (nI b))]) hx hb dX4_sendReads_3 rfl hl (by decide) rfl (fun ls hl => ?_)
  refine bh_loop (σ := Nat) (fun (v : Nat) H locs ls => v ≤ S.1 0 ∧ bh_I D (bh_mw h ad c ((bh_srL S b g v).2)) A s.heap H locs ∧ lv_has ls 4 [(3, .int (nI v)), (2, .int (nI ((bh_srL S b g v).1))), (0, .ref h), (1, .int (nI b))]) (fun (v : Nat) => S.1 0 - v) (fun v H locs ls hx_1 ih_1 => ?_) 0 _ _ _ ⟨Nat.zero_le _, hI, lv_sub hl [0, 1, 2, 3] rfl⟩
  clear hl hI
  obtain ⟨hv, hI, hl⟩ := hx_1
  have hkp := bh_srL_kp S b g v
  refine lv_iload_n hx hb dX4_sendReads_4 rfl (lv_at hl 0 rfl) ?_
  refine lv_aload_n hx hb dX4_sendReads_5 rfl (lv_at hl 2 rfl) ?_
  refine bn_get (ci := 3) (v := .int (nI (S.1 0))) (C := RX4) (T := TX4) (N := 31) hx hb hts hinX4 hown hK hI 0 rfl rfl 0 (by decide) lk_90 rfl (by show some (Value.int (nI ((bh_srL S b g v).2.1 0))) = _; rw [hkp.1.1]) dX4_sendReads_6 ?_
  refine bn_cmp_ge (tgt := 54) hx hb (by omega) (by omega) dX4_sendReads_9 (by decide) (fun c_2 => ?_) (fun c_2 => ?_)
  · refine lv_iload_n hx hb dX4_sendReads_54 rfl (lv_at hl 1 rfl) ?_
    exact bn_reti hx hb hr hlocks hK ((bh_srL S b g v).2) hI (by rw [show v = S.1 0 by omega]; exact ⟨rfl, rfl⟩) dX4_sendReads_55
  · refine lv_aload_n hx hb dX4_sendReads_12 rfl (lv_at hl 2 rfl) ?_
    refine lv_iload_n hx hb dX4_sendReads_13 rfl (lv_at hl 3 rfl) ?_
    refine vp_callSi (bn_roV (As := [.int (nI b)]) (rest := []) ⟨hx, hb, hml, hown, hts⟩ (cm_asked l D c h ad (bh_srL S b g v).2 b h24 g (by rw [(hkp.2 9 (by omega)).1]; exact hg) hg24) (cwV 1 hts gX4_sendReads_X4_asked rfl rfl rfl (by decide +kernel) ⟨Nat.le_of_ble_eq_true rfl, Nat.le_of_ble_eq_true rfl⟩) hK hI 0 3 rfl rfl rfl rfl hl.1 (Nat.le_of_ble_eq_true rfl) dX4_sendReads_14 ⟨Nat.le_of_ble_eq_true rfl, Nat.le_of_ble_eq_true rfl⟩) (fun r_3 er_3 => ?_)
    rw [bh_ask_kp hkp] at er_3
    subst er_3
    refine lv_aload_n hx hb dX4_sendReads_17 rfl (lv_at hl 2 rfl) ?_
    refine bn_get (ci := 3) (v := .ref (ad 10)) (C := RX4) (T := TX4) (N := 31) hx hb hts hinX4 hown hK hI 0 rfl rfl 10 (by decide) lk_39 rfl (rfl) dX4_sendReads_18 ?_
    refine lv_iload_n hx hb dX4_sendReads_21 rfl (lv_at hl 3 rfl) ?_
    refine bn_iald (n := 25) (v := S.2.2.1 10 b) hx hb hK hI 10 0 rfl rfl (by omega) (by first | decide | omega) (by rw [(hkp.2 10 (by omega)).1]) dX4_sendReads_22 ?_
    refine lv_iconst (v := -1) hx hb dX4_sendReads_23 (by decide) ?_
    refine lv_ixor hx hb dX4_sendReads_24 ?_
    refine lv_iand hx hb dX4_sendReads_25 ?_
    refine lv_iconst (v := nI 1) hx hb dX4_sendReads_26 (by decide) ?_
    refine lv_iload_n hx hb dX4_sendReads_27 rfl (lv_at hl 0 rfl) ?_
    refine lv_ishl hx hb dX4_sendReads_28 ?_
    refine lv_iand hx hb dX4_sendReads_29 ?_
    refine lv_if_ne (tgt := 36) hx hb dX4_sendReads_30 (by decide) (fun c_4 => ?_) (fun c_4 => ?_)
    · have q_1 : ¬ bh_srC S b g v = 0 := c_4
      refine lv_aload_n hx hb dX4_sendReads_36 rfl (lv_at hl 2 rfl) ?_
      refine lv_iconst (v := nI 2) hx hb dX4_sendReads_37 (by decide) ?_
      refine lv_iload_n hx hb dX4_sendReads_38 rfl (lv_at hl 3 rfl) ?_
      refine lv_iload_n hx hb dX4_sendReads_39 rfl (lv_at hl 0 rfl) ?_
      refine lv_iconst (v := -1) hx hb dX4_sendReads_40 (by decide) ?_
      refine lv_lconst (v := 0) hx hb dX4_sendReads_41 (by decide) ?_
      refine bn_muv (bn_muV (As := [.int (nI 2), .int (nI b), .int (nI v), .int (-1), .long (0)]) (rest := []) ⟨hx, hb, hml, hown, hts⟩ (cm_put l D c h ad _ ((bh_srL S b g v).2) 2 (nI b) (nI v) (-1) (0) (bh_srL_le ha b g v) (by omega) (by omega)) (cwV 5 hts gX4_sendReads_X4_put rfl rfl rfl (by decide +kernel) ⟨Nat.le_of_ble_eq_true rfl, Nat.le_of_ble_eq_true rfl⟩) hK hI 0 3 rfl rfl rfl rfl hl.1 (Nat.le_of_ble_eq_true rfl) dX4_sendReads_42 ⟨Nat.le_of_ble_eq_true rfl, Nat.le_of_ble_eq_true rfl⟩) hI hA (fun u_5 H locs eu_5 hI => ?_)
      subst eu_5
      refine lv_iinc (v := nI ((bh_srL S b g v).1 + 1)) (lv' := [(2, .int (nI ((bh_srL S b g v).1 + 1))), (3, .int (nI v)), (0, .ref h), (1, .int (nI b))]) hx hb dX4_sendReads_45 hl (k := 1) rfl (nI_1 _) (by decide) rfl (fun ls hl => ?_)
      refine lv_iinc (v := nI (v + 1)) (lv' := [(3, .int (nI (v + 1))), (2, .int (nI ((bh_srL S b g v).1 + 1))), (0, .ref h), (1, .int (nI b))]) hx hb dX4_sendReads_48 hl (k := 1) rfl (nI_1 _) (by decide) rfl (fun ls hl => ?_)
      refine lv_goto (tgt := 4) hx hb dX4_sendReads_51 (by decide) ?_
      exact ih_1 (v + 1) _ _ _ ⟨by omega, (by rw [show bh_srL S b g (v + 1) = _ from if_neg q_1]; exact hI), (by rw [show bh_srL S b g (v + 1) = _ from if_neg q_1]; exact (lv_sub hl [0, 1, 2, 3] rfl))⟩ (by show S.1 0 - (v + 1) < S.1 0 - v; omega)
    · have q_1 : bh_srC S b g v = 0 := c_4
      refine lv_goto (tgt := 48) hx hb dX4_sendReads_33 (by decide) ?_
      refine lv_iinc (v := nI (v + 1)) (lv' := [(3, .int (nI (v + 1))), (2, .int (nI ((bh_srL S b g v).1))), (0, .ref h), (1, .int (nI b))]) hx hb dX4_sendReads_48 hl (k := 0) rfl (nI_1 _) (by decide) rfl (fun ls hl => ?_)
      refine lv_goto (tgt := 4) hx hb dX4_sendReads_51 (by decide) ?_
      exact ih_1 (v + 1) _ _ _ ⟨by omega, (by rw [show bh_srL S b g (v + 1) = _ from if_pos q_1]; exact hI), (by rw [show bh_srL S b g (v + 1) = _ from if_pos q_1]; exact (lv_sub hl [0, 1, 2, 3] rfl))⟩ (by show S.1 0 - (v + 1) < S.1 0 - v; omega)
set_option maxHeartbeats 4000000 in
set_option maxRecDepth 100000 in
theorem cm_sendVotes (l : Launch) (D : va_G) (c : bh_C) (h : Nat) (ad : Nat → Nat) (sz : Nat) (S : mS) (b q : Nat) (h24 : b ≤ 24) (hq : q < 8) (ha : S.1 28 ≤ 400) (hn : S.1 0 ≤ 7) : Met l yX4_sendVotes wsX4_sendVotes ({ frames := 1, cells := 0, slots := 0, locals := 27 }) (va_Pc [.ref h, .int (nI b), .int (nI q)] (bh_prm D c (bh_mw h ad c (S)) sz)) (va_Qi (fun (r : Int32) (u : mS) => r = nI (bh_sv S b q).1 ∧ u = (bh_sv S b q).2) (fun u t => bh_post D c (bh_mw h ad c u) (va_A (bh_mw h ad c (S)) sz) t) (va_A (bh_mw h ad c (S)) sz)) 0 0 (va_A (bh_mw h ad c (S)) sz) := by
  refine Met.ofW (cc := cX4_sendVotes) (maxL := 5) (ret := (some .int)) (by decide) rfl ?_
  intro p e s m args below meth c0 s₁ B hml hv
  obtain ⟨rfl, hsz, hP, hK, hD0⟩ := hv
  have hx := B.exec
  have hb := B.bytes
  have hr := B.returns
  have hts := atoms_spec (ws := wsX4_sendVotes) B.pre
  have hown : s.vm.findClass RX4 = some m.cls := findClass_of_methodNamed B.named
  have hlocks := B.notSynchronized
  have hinX4 : ∀ w ∈ wsX40, w ∈ wsX4_sendVotes := fun _ h => List.mem_cons_of_mem _ (List.mem_append_right _ h)
  have lk_27 : (Cond.fieldLink RX4 27 "BallotHouseModel" "members" "[I").before _ s = true := hts _ (by decide +kernel)
  have lk_54 : (Cond.fieldLink RX4 54 "BallotHouseModel" "answers" "[I").before _ s = true := hts _ (by decide +kernel)
  have lk_60 : (Cond.fieldLink RX4 60 "BallotHouseModel" "says" "[J").before _ s = true := hts _ (by decide +kernel)
  have lk_90 : (Cond.fieldLink RX4 90 "BallotHouseModel" "voters" "I").before _ s = true := hts _ (by decide +kernel)
  subst hsz
  have hI := bh_start hP hD0
  generalize hAe : va_A (bh_mw h ad c (S)) s.heap.size = A at hI ⊢
  have hA : ∀ q : Nat, s.heap.size ≤ q → A q := fun q h => by rw [← hAe]; exact Or.inr h
  clear hP hD0 hAe
  have hl := lv_entry ([.ref h, .int (nI b), .int (nI q)]) (n := 5) (Nat.le_of_ble_eq_true rfl)
  rw [lg_entry_eq]
  generalize (lg_sl ([.ref h, .int (nI b), .int (nI q)]) ++ List.replicate (5 - (lg_sl ([.ref h, .int (nI b), .int (nI q)])).length) Slot.unset).toArray = ls at hl ⊢
  have hl : lv_has ls 5 [(0, .ref h), (1, .int (nI b)), (2, .int (nI q))] := hl
  refine lv_iconst (v := nI 0) hx hb dX4_sendVotes_0 (by decide) ?_
  refine lv_istore_n (lv' := [(3, .int (nI 0)), (0, .ref h), (1, .int (nI b)), (2, .int (nI q))]) hx hb dX4_sendVotes_1 rfl hl (by decide) rfl (fun ls hl => ?_)
  refine lv_iconst (v := nI 0) hx hb dX4_sendVotes_2 (by decide) ?_
  refine lv_istore (lv' := [(4, .int (nI 0)), (3, .int (nI 0)), (0, .ref h), (1, .int (nI b)), (2, .int (nI q))]) hx hb dX4_sendVotes_3 hl (by decide) rfl (fun ls hl => ?_)
  refine bh_loop (σ := Nat) (fun (v : Nat) H locs ls => v ≤ S.1 0 ∧ bh_I D (bh_mw h ad c ((bh_svL S b q v).2)) A s.heap H locs ∧ lv_has ls 5 [(4, .int (nI v)), (3, .int (nI ((bh_svL S b q v).1))), (0, .ref h), (1, .int (nI b)), (2, .int (nI q))]) (fun (v : Nat) => S.1 0 - v) (fun v H locs ls hx_1 ih_1 => ?_) 0 _ _ _ ⟨Nat.zero_le _, hI, lv_sub hl [0, 1, 2, 3, 4] rfl⟩
  clear hl hI
  obtain ⟨hv, hI, hl⟩ := hx_1
  have hkp := bh_svL_kp S b q v
  refine lv_iload hx hb dX4_sendVotes_5 (lv_at hl 0 rfl) ?_
  refine lv_aload_n hx hb dX4_sendVotes_7 rfl (lv_at hl 2 rfl) ?_
  refine bn_get (ci := 3) (v := .int (nI (S.1 0))) (C := RX4) (T := TX4) (N := 31) hx hb hts hinX4 hown hK hI 0 rfl rfl 0 (by decide) lk_90 rfl (by show some (Value.int (nI ((bh_svL S b q v).2.1 0))) = _; rw [hkp.1.1]) dX4_sendVotes_8 ?_
  refine bn_cmp_ge (tgt := 74) hx hb (by omega) (by omega) dX4_sendVotes_11 (by decide) (fun c_2 => ?_) (fun c_2 => ?_)
  · refine lv_iload_n hx hb dX4_sendVotes_74 rfl (lv_at hl 1 rfl) ?_
    exact bn_reti hx hb hr hlocks hK ((bh_svL S b q v).2) hI (by rw [show v = S.1 0 by omega]; exact ⟨rfl, rfl⟩) dX4_sendVotes_75
  · refine lv_aload_n hx hb dX4_sendVotes_14 rfl (lv_at hl 2 rfl) ?_
    refine bn_get (ci := 3) (v := .ref (ad 6)) (C := RX4) (T := TX4) (N := 31) hx hb hts hinX4 hown hK hI 0 rfl rfl 6 (by decide) lk_27 rfl (rfl) dX4_sendVotes_15 ?_
    refine lv_iload_n hx hb dX4_sendVotes_18 rfl (lv_at hl 3 rfl) ?_
    refine bn_iald (n := 25) (v := S.2.2.1 6 b) hx hb hK hI 6 0 rfl rfl (by omega) (by first | decide | omega) (by rw [(hkp.2 6 (by omega)).1]) dX4_sendVotes_19 ?_
    refine lv_aload_n hx hb dX4_sendVotes_20 rfl (lv_at hl 2 rfl) ?_
    refine bn_get (ci := 3) (v := .ref (ad 15)) (C := RX4) (T := TX4) (N := 31) hx hb hts hinX4 hown hK hI 0 rfl rfl 15 (by decide) lk_54 rfl (rfl) dX4_sendVotes_21 ?_
    refine lv_bipush (v := nI 8) hx hb dX4_sendVotes_24 (by decide) ?_
    refine lv_iload_n hx hb dX4_sendVotes_26 rfl (lv_at hl 3 rfl) ?_
    refine bn_imul hx hb dX4_sendVotes_27 ?_
    refine lv_iload_n hx hb dX4_sendVotes_28 rfl (lv_at hl 4 rfl) ?_
    refine bn_iadd hx hb dX4_sendVotes_29 ?_
    refine bn_iald (n := 200) (v := S.2.2.1 15 (8 * b + q)) hx hb hK hI 15 0 rfl rfl (by omega) (by first | decide | omega) (by rw [(hkp.2 15 (by omega)).1]) dX4_sendVotes_30 ?_
    refine lv_iconst (v := -1) hx hb dX4_sendVotes_31 (by decide) ?_
    refine lv_ixor hx hb dX4_sendVotes_32 ?_
    refine lv_iand hx hb dX4_sendVotes_33 ?_
    refine lv_iconst (v := nI 1) hx hb dX4_sendVotes_34 (by decide) ?_
    refine lv_iload hx hb dX4_sendVotes_35 (lv_at hl 0 rfl) ?_
    refine lv_ishl hx hb dX4_sendVotes_37 ?_
    refine lv_iand hx hb dX4_sendVotes_38 ?_
    refine lv_if_ne (tgt := 45) hx hb dX4_sendVotes_39 (by decide) (fun c_3 => ?_) (fun c_3 => ?_)
    · have q_1 : ¬ bh_svC S b q v = 0 := c_3
      refine lv_aload_n hx hb dX4_sendVotes_45 rfl (lv_at hl 2 rfl) ?_
      refine lv_iconst (v := nI 4) hx hb dX4_sendVotes_46 (by decide) ?_
      refine lv_iload_n hx hb dX4_sendVotes_47 rfl (lv_at hl 3 rfl) ?_
      refine lv_iload hx hb dX4_sendVotes_48 (lv_at hl 0 rfl) ?_
      refine lv_iload_n hx hb dX4_sendVotes_50 rfl (lv_at hl 4 rfl) ?_
      refine lv_aload_n hx hb dX4_sendVotes_51 rfl (lv_at hl 2 rfl) ?_
      refine bn_get (ci := 3) (v := .ref (ad 17)) (C := RX4) (T := TX4) (N := 31) hx hb hts hinX4 hown hK hI 0 rfl rfl 17 (by decide) lk_60 rfl (rfl) dX4_sendVotes_52 ?_
      refine lv_bipush (v := nI 8) hx hb dX4_sendVotes_55 (by decide) ?_
      refine lv_iload_n hx hb dX4_sendVotes_57 rfl (lv_at hl 3 rfl) ?_
      refine bn_imul hx hb dX4_sendVotes_58 ?_
      refine lv_iload_n hx hb dX4_sendVotes_59 rfl (lv_at hl 4 rfl) ?_
      refine bn_iadd hx hb dX4_sendVotes_60 ?_
      refine bn_lald (n := 200) (v := S.2.2.2 17 (8 * b + q)) hx hb hK hI 17 1 rfl rfl (by omega) (by first | decide | omega) (by rw [(hkp.2 17 (by omega)).2]) dX4_sendVotes_61 ?_
      refine bn_muv (bn_muV (As := [.int (nI 4), .int (nI b), .int (nI v), .int (nI q), .long (S.2.2.2 17 (8 * b + q))]) (rest := []) ⟨hx, hb, hml, hown, hts⟩ (cm_put l D c h ad _ ((bh_svL S b q v).2) 4 (nI b) (nI v) (nI q) (S.2.2.2 17 (8 * b + q)) (bh_svL_le ha b q v) (by omega) (by omega)) (cwV 5 hts gX4_sendVotes_X4_put rfl rfl rfl (by decide +kernel) ⟨Nat.le_of_ble_eq_true rfl, Nat.le_of_ble_eq_true rfl⟩) hK hI 0 3 rfl rfl rfl rfl hl.1 (Nat.le_of_ble_eq_true rfl) dX4_sendVotes_62 ⟨Nat.le_of_ble_eq_true rfl, Nat.le_of_ble_eq_true rfl⟩) hI hA (fun u_4 H locs eu_4 hI => ?_)
      subst eu_4
      refine lv_iinc (v := nI ((bh_svL S b q v).1 + 1)) (lv' := [(3, .int (nI ((bh_svL S b q v).1 + 1))), (4, .int (nI v)), (0, .ref h), (1, .int (nI b)), (2, .int (nI q))]) hx hb dX4_sendVotes_65 hl (k := 1) rfl (nI_1 _) (by decide) rfl (fun ls hl => ?_)
      refine lv_iinc (v := nI (v + 1)) (lv' := [(4, .int (nI (v + 1))), (3, .int (nI ((bh_svL S b q v).1 + 1))), (0, .ref h), (1, .int (nI b)), (2, .int (nI q))]) hx hb dX4_sendVotes_68 hl (k := 1) rfl (nI_1 _) (by decide) rfl (fun ls hl => ?_)
      refine lv_goto (tgt := 5) hx hb dX4_sendVotes_71 (by decide) ?_
      exact ih_1 (v + 1) _ _ _ ⟨by omega, (by rw [show bh_svL S b q (v + 1) = _ from if_neg q_1]; exact hI), (by rw [show bh_svL S b q (v + 1) = _ from if_neg q_1]; exact (lv_sub hl [0, 1, 2, 3, 4] rfl))⟩ (by show S.1 0 - (v + 1) < S.1 0 - v; omega)
    · have q_1 : bh_svC S b q v = 0 := c_3
      refine lv_goto (tgt := 68) hx hb dX4_sendVotes_42 (by decide) ?_
      refine lv_iinc (v := nI (v + 1)) (lv' := [(4, .int (nI (v + 1))), (3, .int (nI ((bh_svL S b q v).1))), (0, .ref h), (1, .int (nI b)), (2, .int (nI q))]) hx hb dX4_sendVotes_68 hl (k := 0) rfl (nI_1 _) (by decide) rfl (fun ls hl => ?_)
      refine lv_goto (tgt := 5) hx hb dX4_sendVotes_71 (by decide) ?_
      exact ih_1 (v + 1) _ _ _ ⟨by omega, (by rw [show bh_svL S b q (v + 1) = _ from if_pos q_1]; exact hI), (by rw [show bh_svL S b q (v + 1) = _ from if_pos q_1]; exact (lv_sub hl [0, 1, 2, 3, 4] rfl))⟩ (by show S.1 0 - (v + 1) < S.1 0 - v; omega)
set_option maxHeartbeats 4000000 in
set_option maxRecDepth 100000 in
theorem cm_isRead (l : Launch) (D : va_G) (c : bh_C) (h : Nat) (ad : Nat → Nat) (S : mS) (b : Nat) (h24 : b ≤ 24) (g : Nat) (hg : S.2.2.1 9 b = nI g) (hg24 : g ≤ 24) : Met l yX4_isRead wsX4_isRead ({ frames := 1, cells := 0, slots := 0, locals := 22 }) (va_Pc [.ref h, .int (nI b)] (bh_pre D c (bh_mw h ad c (S)))) (vp_Si (fun r => r = bh_tf (bh_isr S b g))) 0 0 (fun _ => False) := by
  refine Met.ofW (cc := cX4_isRead) (maxL := 4) (ret := (some .boolean)) (by decide) rfl ?_
  intro p e s m args below meth c0 s₁ B hml hv
  obtain ⟨rfl, hP, hK, hD0⟩ := hv
  have hx := B.exec
  have hb := B.bytes
  have hr := B.returns
  have hts := atoms_spec (ws := wsX4_isRead) B.pre
  have hown : s.vm.findClass RX4 = some m.cls := findClass_of_methodNamed B.named
  have hlocks := B.notSynchronized
  have hinX4 : ∀ w ∈ wsX40, w ∈ wsX4_isRead := fun _ h => List.mem_cons_of_mem _ (List.mem_append_right _ h)
  have lk_27 : (Cond.fieldLink RX4 27 "BallotHouseModel" "members" "[I").before _ s = true := hts _ (by decide +kernel)
  have lk_30 : (Cond.fieldLink RX4 30 "BallotHouseModel" "reads" "[I").before _ s = true := hts _ (by decide +kernel)
  have lk_39 : (Cond.fieldLink RX4 39 "BallotHouseModel" "readers" "[I").before _ s = true := hts _ (by decide +kernel)
  have hI : bh_I D (bh_mw h ad c (S)) (fun _ => True) s.heap s.heap [] := ⟨hP, hD0, va_S.rf⟩
  have hl := lv_entry ([.ref h, .int (nI b)]) (n := 4) (Nat.le_of_ble_eq_true rfl)
  rw [lg_entry_eq]
  generalize (lg_sl ([.ref h, .int (nI b)]) ++ List.replicate (4 - (lg_sl ([.ref h, .int (nI b)])).length) Slot.unset).toArray = ls at hl ⊢
  have hl : lv_has ls 4 [(0, .ref h), (1, .int (nI b))] := hl
  have hf := bh_fr_le hg24
  refine lv_iconst (v := nI 1) hx hb dX4_isRead_0 (by decide) ?_
  refine lv_istore_n (lv' := [(2, .int (nI 1)), (0, .ref h), (1, .int (nI b))]) hx hb dX4_isRead_1 rfl hl (by decide) rfl (fun ls hl => ?_)
  refine lv_aload_n hx hb dX4_isRead_2 rfl (lv_at hl 1 rfl) ?_
  refine lv_iload_n hx hb dX4_isRead_3 rfl (lv_at hl 2 rfl) ?_
  refine vp_callSi (bn_roV (As := [.int (nI b)]) (rest := []) ⟨hx, hb, hml, hown, hts⟩ (cm_firstRead l D c h ad S b h24 g hg hg24) (cwV 1 hts gX4_isRead_X4_firstRead rfl rfl rfl (by decide +kernel) ⟨Nat.le_of_ble_eq_true rfl, Nat.le_of_ble_eq_true rfl⟩) hK hI 0 3 rfl rfl rfl rfl hl.1 (Nat.le_of_ble_eq_true rfl) dX4_isRead_4 ⟨Nat.le_of_ble_eq_true rfl, Nat.le_of_ble_eq_true rfl⟩) (fun r_1 er_1 => ?_)
  subst er_1
  refine lv_istore_n (lv' := [(3, .int (nI (bh_fr g))), (2, .int (nI 1)), (0, .ref h), (1, .int (nI b))]) hx hb dX4_isRead_7 rfl hl (by decide) rfl (fun ls hl => ?_)
  refine bh_loop (σ := Nat) (fun (d : Nat) H locs ls => H = s.heap ∧ locs = [] ∧ d ≤ b - bh_fr g ∧ lv_has ls 4 [(3, .int (nI (bh_fr g + d))), (2, .int (bh_tf (bh_isrL S b (bh_fr g) d))), (0, .ref h), (1, .int (nI b))]) (fun (d : Nat) => b - bh_fr g - d) (fun d H locs ls hx_2 ih_2 => ?_) 0 _ _ _ ⟨rfl, rfl, Nat.zero_le _, lv_sub hl [0, 1, 2, 3] rfl⟩
  clear hl
  obtain ⟨rfl, rfl, hd, hl⟩ := hx_2
  refine lv_iload_n hx hb dX4_isRead_8 rfl (lv_at hl 0 rfl) ?_
  refine lv_iload_n hx hb dX4_isRead_9 rfl (lv_at hl 3 rfl) ?_
  refine bn_cmp_ge (tgt := 54) hx hb (by omega) (by omega) dX4_isRead_10 (by decide) (fun c_3 => ?_) (fun c_3 => ?_)
  · refine lv_iload_n hx hb dX4_isRead_54 rfl (lv_at hl 1 rfl) ?_
    exact bn_rotz hx hb hr hlocks (by unfold bh_isr; rw [show d = b - bh_fr g by omega]) (bh_tf_nar _) dX4_isRead_55
  · refine lv_iload_n hx hb dX4_isRead_13 rfl (lv_at hl 1 rfl) ?_
    refine lv_if_eq (tgt := 54) hx hb dX4_isRead_14 (by decide) (fun c_4 => ?_) (fun c_4 => ?_)
    · refine lv_iload_n hx hb dX4_isRead_54 rfl (lv_at hl 1 rfl) ?_
      exact bn_rotz hx hb hr hlocks (by unfold bh_isr; rw [bh_isrL_f (bh_tf_eq c_4) hd, bh_tf_eq c_4]) (bh_tf_nar _) dX4_isRead_55
    · have q_1 := c_4
      refine lv_aload_n hx hb dX4_isRead_17 rfl (lv_at hl 2 rfl) ?_
      refine bn_get (ci := 3) (v := .ref (ad 10)) (C := RX4) (T := TX4) (N := 31) hx hb hts hinX4 hown hK hI 0 rfl rfl 10 (by decide) lk_39 rfl (rfl) dX4_isRead_18 ?_
      refine lv_iload_n hx hb dX4_isRead_21 rfl (lv_at hl 3 rfl) ?_
      refine bn_iald (n := 25) (v := S.2.2.1 10 b) hx hb hK hI 10 0 rfl rfl (by omega) (by first | decide | omega) (rfl) dX4_isRead_22 ?_
      refine lv_aload_n hx hb dX4_isRead_23 rfl (lv_at hl 2 rfl) ?_
      refine bn_get (ci := 3) (v := .ref (ad 6)) (C := RX4) (T := TX4) (N := 31) hx hb hts hinX4 hown hK hI 0 rfl rfl 6 (by decide) lk_27 rfl (rfl) dX4_isRead_24 ?_
      refine lv_iload_n hx hb dX4_isRead_27 rfl (lv_at hl 0 rfl) ?_
      refine bn_iald (n := 25) (v := S.2.2.1 6 (bh_fr g + d)) hx hb hK hI 6 0 rfl rfl (by omega) (by first | decide | omega) (rfl) dX4_isRead_28 ?_
      refine lv_iand hx hb dX4_isRead_29 ?_
      refine vp_callSi (bn_roS (As := [.int ((S.2.2.1 10 b) &&& (S.2.2.1 6 (bh_fr g + d)))]) (rest := []) ⟨hx, hb, hml, hown, hts⟩ (cm_many l (S.2.2.1 10 b &&& S.2.2.1 6 (bh_fr g + d))) (va_cwS 1 hts gX4_isRead_X4_many rfl rfl rfl (by decide +kernel) ⟨Nat.le_of_ble_eq_true rfl, Nat.le_of_ble_eq_true rfl⟩) rfl hl.1 (Nat.le_of_ble_eq_true rfl) dX4_isRead_30 ⟨Nat.le_of_ble_eq_true rfl, Nat.le_of_ble_eq_true rfl⟩) (fun r_5 er_5 => ?_)
      subst er_5
      refine lv_aload_n hx hb dX4_isRead_33 rfl (lv_at hl 2 rfl) ?_
      refine bn_get (ci := 3) (v := .ref (ad 7)) (C := RX4) (T := TX4) (N := 31) hx hb hts hinX4 hown hK hI 0 rfl rfl 7 (by decide) lk_30 rfl (rfl) dX4_isRead_34 ?_
      refine lv_iload_n hx hb dX4_isRead_37 rfl (lv_at hl 0 rfl) ?_
      refine bn_iald (n := 25) (v := S.2.2.1 7 (bh_fr g + d)) hx hb hK hI 7 0 rfl rfl (by omega) (by first | decide | omega) (rfl) dX4_isRead_38 ?_
      refine lv_icmp_lt (tgt := 46) hx hb dX4_isRead_39 (by decide) (fun c_6 => ?_) (fun c_6 => ?_)
      · refine lv_iconst (v := nI 0) hx hb dX4_isRead_46 (by decide) ?_
        refine lv_topi (fun z_7 ez_7 => ?_)
        obtain rfl : z_7 = bh_tf (bh_isrL S b (bh_fr g) (d + 1)) := ez_7.trans (bh_isr_n c_6)
        refine lv_istore_n (lv' := [(2, .int (bh_tf (bh_isrL S b (bh_fr g) (d + 1)))), (3, .int (nI (bh_fr g + d))), (0, .ref h), (1, .int (nI b))]) hx hb dX4_isRead_47 rfl hl (by decide) rfl (fun ls hl => ?_)
        refine lv_iinc (v := nI (bh_fr g + d + 1)) (lv' := [(3, .int (nI (bh_fr g + d + 1))), (2, .int (bh_tf (bh_isrL S b (bh_fr g) (d + 1)))), (0, .ref h), (1, .int (nI b))]) hx hb dX4_isRead_48 hl (k := 1) rfl (nI_1 _) (by decide) rfl (fun ls hl => ?_)
        refine lv_goto (tgt := 8) hx hb dX4_isRead_51 (by decide) ?_
        exact ih_2 (d + 1) _ _ _ ⟨rfl, rfl, by omega, lv_sub hl [0, 1, 2, 3] rfl⟩ (by show b - bh_fr g - (d + 1) < b - bh_fr g - d; omega)
      · refine lv_iconst (v := nI 1) hx hb dX4_isRead_42 (by decide) ?_
        refine lv_topi (fun z_8 ez_8 => ?_)
        obtain rfl : z_8 = bh_tf (bh_isrL S b (bh_fr g) (d + 1)) := ez_8.trans (bh_isr_t q_1 c_6)
        refine lv_goto (tgt := 47) hx hb dX4_isRead_43 (by decide) ?_
        refine lv_istore_n (lv' := [(2, .int (bh_tf (bh_isrL S b (bh_fr g) (d + 1)))), (3, .int (nI (bh_fr g + d))), (0, .ref h), (1, .int (nI b))]) hx hb dX4_isRead_47 rfl hl (by decide) rfl (fun ls hl => ?_)
        refine lv_iinc (v := nI (bh_fr g + d + 1)) (lv' := [(3, .int (nI (bh_fr g + d + 1))), (2, .int (bh_tf (bh_isrL S b (bh_fr g) (d + 1)))), (0, .ref h), (1, .int (nI b))]) hx hb dX4_isRead_48 hl (k := 1) rfl (nI_1 _) (by decide) rfl (fun ls hl => ?_)
        refine lv_goto (tgt := 8) hx hb dX4_isRead_51 (by decide) ?_
        exact ih_2 (d + 1) _ _ _ ⟨rfl, rfl, by omega, lv_sub hl [0, 1, 2, 3] rfl⟩ (by show b - bh_fr g - (d + 1) < b - bh_fr g - d; omega)
set_option maxHeartbeats 4000000 in
set_option maxRecDepth 100000 in
theorem cm_isMoved (l : Launch) (D : va_G) (c : bh_C) (h : Nat) (ad : Nat → Nat) (S : mS) (b : Nat) (h24 : b ≤ 24) : Met l yX4_isMoved wsX4_isMoved ({ frames := 0, cells := 0, slots := 0, locals := 0 }) (va_Pc [.ref h, .int (nI b)] (bh_pre D c (bh_mw h ad c (S)))) (vp_Si (fun r => r = bh_tf (bh_mvd S b))) 0 0 (fun _ => False) := by
  refine Met.ofW (cc := cX4_isMoved) (maxL := 2) (ret := (some .boolean)) (by decide) rfl ?_
  intro p e s m args below meth c0 s₁ B hml hv
  obtain ⟨rfl, hP, hK, hD0⟩ := hv
  have hx := B.exec
  have hb := B.bytes
  have hr := B.returns
  have hts := atoms_spec (ws := wsX4_isMoved) B.pre
  have hown : s.vm.findClass RX4 = some m.cls := findClass_of_methodNamed B.named
  have hlocks := B.notSynchronized
  have hinX4 : ∀ w ∈ wsX40, w ∈ wsX4_isMoved := fun _ h => List.mem_cons_of_mem _ (List.mem_append_right _ h)
  have lk_42 : (Cond.fieldLink RX4 42 "BallotHouseModel" "found" "[I").before _ s = true := hts _ (by decide +kernel)
  have lk_48 : (Cond.fieldLink RX4 48 "BallotHouseModel" "known" "[I").before _ s = true := hts _ (by decide +kernel)
  have hI : bh_I D (bh_mw h ad c (S)) (fun _ => True) s.heap s.heap [] := ⟨hP, hD0, va_S.rf⟩
  have hl := lv_entry ([.ref h, .int (nI b)]) (n := 2) (Nat.le_of_ble_eq_true rfl)
  rw [lg_entry_eq]
  generalize (lg_sl ([.ref h, .int (nI b)]) ++ List.replicate (2 - (lg_sl ([.ref h, .int (nI b)])).length) Slot.unset).toArray = ls at hl ⊢
  have hl : lv_has ls 2 [(0, .ref h), (1, .int (nI b))] := hl
  refine lv_aload_n hx hb dX4_isMoved_0 rfl (lv_at hl 0 rfl) ?_
  refine bn_get (ci := 3) (v := .ref (ad 11)) (C := RX4) (T := TX4) (N := 31) hx hb hts hinX4 hown hK hI 0 rfl rfl 11 (by decide) lk_42 rfl (rfl) dX4_isMoved_1 ?_
  refine lv_iload_n hx hb dX4_isMoved_4 rfl (lv_at hl 1 rfl) ?_
  refine bn_iald (n := 25) (v := S.2.2.1 11 b) hx hb hK hI 11 0 rfl rfl (by omega) (by first | decide | omega) (rfl) dX4_isMoved_5 ?_
  refine lv_aload_n hx hb dX4_isMoved_6 rfl (lv_at hl 0 rfl) ?_
  refine bn_get (ci := 3) (v := .ref (ad 13)) (C := RX4) (T := TX4) (N := 31) hx hb hts hinX4 hown hK hI 0 rfl rfl 13 (by decide) lk_48 rfl (rfl) dX4_isMoved_7 ?_
  refine lv_iload_n hx hb dX4_isMoved_10 rfl (lv_at hl 1 rfl) ?_
  refine bn_iald (n := 25) (v := S.2.2.1 13 b) hx hb hK hI 13 0 rfl rfl (by omega) (by first | decide | omega) (rfl) dX4_isMoved_11 ?_
  refine lv_iconst (v := -1) hx hb dX4_isMoved_12 (by decide) ?_
  refine lv_ixor hx hb dX4_isMoved_13 ?_
  refine lv_iand hx hb dX4_isMoved_14 ?_
  refine lv_if_ne (tgt := 22) hx hb dX4_isMoved_15 (by decide) (fun c_1 => ?_) (fun c_1 => ?_)
  · refine lv_iconst (v := nI 0) hx hb dX4_isMoved_22 (by decide) ?_
    exact bn_rotz hx hb hr hlocks (by unfold bh_mvd; rw [decide_eq_false c_1]; rfl) (by decide) dX4_isMoved_23
  · refine lv_iconst (v := nI 1) hx hb dX4_isMoved_18 (by decide) ?_
    refine lv_goto (tgt := 23) hx hb dX4_isMoved_19 (by decide) ?_
    exact bn_rotz hx hb hr hlocks (by unfold bh_mvd; rw [decide_eq_true c_1]; rfl) (by decide) dX4_isMoved_23
set_option maxHeartbeats 4000000 in
set_option maxRecDepth 100000 in
theorem cm_beginAsking (l : Launch) (D : va_G) (c : bh_C) (h : Nat) (ad : Nat → Nat) (sz : Nat) (S : mS) (b : Nat) (h24 : b ≤ 24) (ha : S.1 28 ≤ 400) : Met l yX4_beginAsking wsX4_beginAsking ({ frames := 1, cells := 0, slots := 0, locals := 27 }) (va_Pc [.ref h, .int (nI b)] (bh_prm D c (bh_mw h ad c (S)) sz)) (va_Qv (fun u : mS => u = bh_bask S b) (fun u t => bh_post D c (bh_mw h ad c u) (va_A (bh_mw h ad c (S)) sz) t) (va_A (bh_mw h ad c (S)) sz)) 0 0 (va_A (bh_mw h ad c (S)) sz) := by
  refine Met.ofW (cc := cX4_beginAsking) (maxL := 2) (ret := none) (by decide) rfl ?_
  intro p e s m args below meth c0 s₁ B hml hv
  obtain ⟨rfl, hsz, hP, hK, hD0⟩ := hv
  have hx := B.exec
  have hb := B.bytes
  have hr := B.returns
  have hts := atoms_spec (ws := wsX4_beginAsking) B.pre
  have hown : s.vm.findClass RX4 = some m.cls := findClass_of_methodNamed B.named
  have hlocks := B.notSynchronized
  have hinX4 : ∀ w ∈ wsX40, w ∈ wsX4_beginAsking := fun _ h => List.mem_cons_of_mem _ (List.mem_append_right _ h)
  have lk_24 : (Cond.fieldLink RX4 24 "BallotHouseModel" "state" "[I").before _ s = true := hts _ (by decide +kernel)
  subst hsz
  have hI := bh_start hP hD0
  generalize hAe : va_A (bh_mw h ad c (S)) s.heap.size = A at hI ⊢
  have hA : ∀ q : Nat, s.heap.size ≤ q → A q := fun q h => by rw [← hAe]; exact Or.inr h
  clear hP hD0 hAe
  have hl := lv_entry ([.ref h, .int (nI b)]) (n := 2) (Nat.le_of_ble_eq_true rfl)
  rw [lg_entry_eq]
  generalize (lg_sl ([.ref h, .int (nI b)]) ++ List.replicate (2 - (lg_sl ([.ref h, .int (nI b)])).length) Slot.unset).toArray = ls at hl ⊢
  have hl : lv_has ls 2 [(0, .ref h), (1, .int (nI b))] := hl
  refine lv_aload_n hx hb dX4_beginAsking_0 rfl (lv_at hl 0 rfl) ?_
  refine bn_get (ci := 3) (v := .ref (ad 5)) (C := RX4) (T := TX4) (N := 31) hx hb hts hinX4 hown hK hI 0 rfl rfl 5 (by decide) lk_24 rfl (rfl) dX4_beginAsking_1 ?_
  refine lv_iload_n hx hb dX4_beginAsking_4 rfl (lv_at hl 1 rfl) ?_
  refine lv_iconst (v := nI 3) hx hb dX4_beginAsking_5 (by decide) ?_
  refine bn_iast (n := 25) (ws' := bh_mw h ad c (bh_r S 5 b (nI 3))) hx hb hK hI 5 0 rfl rfl (by omega) (by first | decide | omega) dX4_beginAsking_6 rfl (fun H locs hI => ?_)
  refine lv_aload_n hx hb dX4_beginAsking_7 rfl (lv_at hl 0 rfl) ?_
  refine lv_bipush (v := nI 6) hx hb dX4_beginAsking_8 (by decide) ?_
  refine lv_iload_n hx hb dX4_beginAsking_10 rfl (lv_at hl 1 rfl) ?_
  refine lv_iconst (v := -1) hx hb dX4_beginAsking_11 (by decide) ?_
  refine lv_iconst (v := -1) hx hb dX4_beginAsking_12 (by decide) ?_
  refine lv_lconst (v := 0) hx hb dX4_beginAsking_13 (by decide) ?_
  refine bn_muv (bn_muV (As := [.int (nI 6), .int (nI b), .int (-1), .int (-1), .long (0)]) (rest := []) ⟨hx, hb, hml, hown, hts⟩ (cm_put l D c h ad _ (bh_r S 5 b (nI 3)) 6 (nI b) (-1) (-1) (0) (ha) (by omega) (by omega)) (cwV 5 hts gX4_beginAsking_X4_put rfl rfl rfl (by decide +kernel) ⟨Nat.le_of_ble_eq_true rfl, Nat.le_of_ble_eq_true rfl⟩) hK hI 0 3 rfl rfl rfl rfl hl.1 (Nat.le_of_ble_eq_true rfl) dX4_beginAsking_14 ⟨Nat.le_of_ble_eq_true rfl, Nat.le_of_ble_eq_true rfl⟩) hI hA (fun u_1 H locs eu_1 hI => ?_)
  subst eu_1
  exact bn_retv hx hb hr hlocks hK (bh_put (bh_r S 5 b (nI 3)) (nI 6) (nI b) (-1) (-1) 0 bh_z0 bh_z1) hI (rfl) dX4_beginAsking_17
set_option maxHeartbeats 4000000 in
set_option maxRecDepth 100000 in
theorem cm_beginMoving (l : Launch) (D : va_G) (c : bh_C) (h : Nat) (ad : Nat → Nat) (sz : Nat) (S : mS) (b : Nat) (h24 : b ≤ 24) (ha : S.1 28 ≤ 400) (hn : S.1 0 ≤ 7) : Met l yX4_beginMoving wsX4_beginMoving ({ frames := 2, cells := 0, slots := 0, locals := 51 }) (va_Pc [.ref h, .int (nI b)] (bh_prm D c (bh_mw h ad c (S)) sz)) (va_Qv (fun u : mS => u = bh_bmo S b) (fun u t => bh_post D c (bh_mw h ad c u) (va_A (bh_mw h ad c (S)) sz) t) (va_A (bh_mw h ad c (S)) sz)) 0 0 (va_A (bh_mw h ad c (S)) sz) := by
  refine Met.ofW (cc := cX4_beginMoving) (maxL := 3) (ret := none) (by decide) rfl ?_
  intro p e s m args below meth c0 s₁ B hml hv
  obtain ⟨rfl, hsz, hP, hK, hD0⟩ := hv
  have hx := B.exec
  have hb := B.bytes
  have hr := B.returns
  have hts := atoms_spec (ws := wsX4_beginMoving) B.pre
  have hown : s.vm.findClass RX4 = some m.cls := findClass_of_methodNamed B.named
  have hlocks := B.notSynchronized
  have hinX4 : ∀ w ∈ wsX40, w ∈ wsX4_beginMoving := fun _ h => List.mem_cons_of_mem _ (List.mem_append_right _ h)
  have lk_24 : (Cond.fieldLink RX4 24 "BallotHouseModel" "state" "[I").before _ s = true := hts _ (by decide +kernel)
  have lk_42 : (Cond.fieldLink RX4 42 "BallotHouseModel" "found" "[I").before _ s = true := hts _ (by decide +kernel)
  subst hsz
  have hI := bh_start hP hD0
  generalize hAe : va_A (bh_mw h ad c (S)) s.heap.size = A at hI ⊢
  have hA : ∀ q : Nat, s.heap.size ≤ q → A q := fun q h => by rw [← hAe]; exact Or.inr h
  clear hP hD0 hAe
  have hl := lv_entry ([.ref h, .int (nI b)]) (n := 3) (Nat.le_of_ble_eq_true rfl)
  rw [lg_entry_eq]
  generalize (lg_sl ([.ref h, .int (nI b)]) ++ List.replicate (3 - (lg_sl ([.ref h, .int (nI b)])).length) Slot.unset).toArray = ls at hl ⊢
  have hl : lv_has ls 3 [(0, .ref h), (1, .int (nI b))] := hl
  refine lv_aload_n hx hb dX4_beginMoving_0 rfl (lv_at hl 0 rfl) ?_
  refine bn_get (ci := 3) (v := .ref (ad 5)) (C := RX4) (T := TX4) (N := 31) hx hb hts hinX4 hown hK hI 0 rfl rfl 5 (by decide) lk_24 rfl (rfl) dX4_beginMoving_1 ?_
  refine lv_iload_n hx hb dX4_beginMoving_4 rfl (lv_at hl 1 rfl) ?_
  refine lv_iconst (v := nI 2) hx hb dX4_beginMoving_5 (by decide) ?_
  refine bn_iast (n := 25) (ws' := bh_mw h ad c (bh_r S 5 b (nI 2))) hx hb hK hI 5 0 rfl rfl (by omega) (by first | decide | omega) dX4_beginMoving_6 rfl (fun H locs hI => ?_)
  refine lv_iconst (v := nI 0) hx hb dX4_beginMoving_7 (by decide) ?_
  refine lv_istore_n (lv' := [(2, .int (nI 0)), (0, .ref h), (1, .int (nI b))]) hx hb dX4_beginMoving_8 rfl hl (by decide) rfl (fun ls hl => ?_)
  refine bh_loop (σ := Nat) (fun (q : Nat) H locs ls => q ≤ 8 ∧ bh_I D (bh_mw h ad c (bh_bmL (bh_r S 5 b (nI 2)) b q)) A s.heap H locs ∧ lv_has ls 3 [(2, .int (nI q)), (0, .ref h), (1, .int (nI b))]) (fun (q : Nat) => 8 - q) (fun q H locs ls hx_1 ih_1 => ?_) 0 _ _ _ ⟨Nat.zero_le 8, hI, lv_sub hl [0, 1, 2] rfl⟩
  clear hl hI
  obtain ⟨hq, hI, hl⟩ := hx_1
  have hkp := bh_bmL_kp (bh_r S 5 b (nI 2)) b q
  have hle := bh_bmL_le (S := bh_r S 5 b (nI 2)) ha b q
  refine lv_iload_n hx hb dX4_beginMoving_9 rfl (lv_at hl 0 rfl) ?_
  refine lv_bipush (v := nI 8) hx hb dX4_beginMoving_10 (by decide) ?_
  refine bn_cmp_ge (tgt := 42) hx hb (by omega) (by omega) dX4_beginMoving_12 (by decide) (fun c_2 => ?_) (fun c_2 => ?_)
  · obtain rfl : q = 8 := by omega
    refine lv_aload_n hx hb dX4_beginMoving_42 rfl (lv_at hl 1 rfl) ?_
    refine lv_iload_n hx hb dX4_beginMoving_43 rfl (lv_at hl 2 rfl) ?_
    refine vp_callSi (bn_roV (As := [.int (nI b)]) (rest := []) ⟨hx, hb, hml, hown, hts⟩ (cm_isMoved l D c h ad (bh_bmL (bh_r S 5 b (nI 2)) b 8) b h24) (cwV 1 hts gX4_beginMoving_X4_isMoved rfl rfl rfl (by decide +kernel) ⟨Nat.le_of_ble_eq_true rfl, Nat.le_of_ble_eq_true rfl⟩) hK hI 0 3 rfl rfl rfl rfl hl.1 (Nat.le_of_ble_eq_true rfl) dX4_beginMoving_44 ⟨Nat.le_of_ble_eq_true rfl, Nat.le_of_ble_eq_true rfl⟩) (fun r_3 er_3 => ?_)
    subst er_3
    refine lv_if_eq (tgt := 55) hx hb dX4_beginMoving_47 (by decide) (fun c_4 => ?_) (fun c_4 => ?_)
    · have q_2 : ¬ bh_mvd (bh_bmL (bh_r S 5 b (nI 2)) b 8) b = true := by rw [bh_tf_eq c_4]; decide
      exact bn_retv hx hb hr hlocks hK (bh_bmL (bh_r S 5 b (nI 2)) b 8) hI (by unfold bh_bmo; rw [if_neg q_2]) dX4_beginMoving_55
    · have q_2 := bh_tf_ne c_4
      refine lv_aload_n hx hb dX4_beginMoving_50 rfl (lv_at hl 1 rfl) ?_
      refine lv_iload_n hx hb dX4_beginMoving_51 rfl (lv_at hl 2 rfl) ?_
      refine bn_muv (bn_muV (As := [.int (nI b)]) (rest := []) ⟨hx, hb, hml, hown, hts⟩ (cm_beginAsking l D c h ad _ (bh_bmL (bh_r S 5 b (nI 2)) b 8) b h24 hle) (cwV 1 hts gX4_beginMoving_X4_beginAsking rfl rfl rfl (by decide +kernel) ⟨Nat.le_of_ble_eq_true rfl, Nat.le_of_ble_eq_true rfl⟩) hK hI 0 3 rfl rfl rfl rfl hl.1 (Nat.le_of_ble_eq_true rfl) dX4_beginMoving_52 ⟨Nat.le_of_ble_eq_true rfl, Nat.le_of_ble_eq_true rfl⟩) hI hA (fun u_5 H locs eu_5 hI => ?_)
      subst eu_5
      exact bn_retv hx hb hr hlocks hK (bh_bask (bh_bmL (bh_r S 5 b (nI 2)) b 8) b) hI (by unfold bh_bmo; rw [if_pos q_2]) dX4_beginMoving_55
  · refine lv_aload_n hx hb dX4_beginMoving_15 rfl (lv_at hl 1 rfl) ?_
    refine bn_get (ci := 3) (v := .ref (ad 11)) (C := RX4) (T := TX4) (N := 31) hx hb hts hinX4 hown hK hI 0 rfl rfl 11 (by decide) lk_42 rfl (rfl) dX4_beginMoving_16 ?_
    refine lv_iload_n hx hb dX4_beginMoving_19 rfl (lv_at hl 2 rfl) ?_
    refine bn_iald (n := 25) (v := (bh_r S 5 b (nI 2)).2.2.1 11 b) hx hb hK hI 11 0 rfl rfl (by omega) (by first | decide | omega) (by rw [(hkp.2 11 (by omega)).1]) dX4_beginMoving_20 ?_
    refine lv_iload_n hx hb dX4_beginMoving_21 rfl (lv_at hl 0 rfl) ?_
    refine lv_ishr hx hb dX4_beginMoving_22 ?_
    refine lv_iconst (v := nI 1) hx hb dX4_beginMoving_23 (by decide) ?_
    refine lv_iand hx hb dX4_beginMoving_24 ?_
    refine lv_iconst (v := nI 1) hx hb dX4_beginMoving_25 (by decide) ?_
    refine lv_icmp_ne (tgt := 36) hx hb dX4_beginMoving_26 (by decide) (fun c_6 => ?_) (fun c_6 => ?_)
    · have q_1 : ¬ ((bh_r S 5 b (nI 2)).2.2.1 11 b >>> (nI q &&& 31)) &&& nI 1 = nI 1 := c_6
      refine lv_iinc (v := nI (q + 1)) (lv' := [(2, .int (nI (q + 1))), (0, .ref h), (1, .int (nI b))]) hx hb dX4_beginMoving_36 hl (k := 0) rfl (nI_1 _) (by decide) rfl (fun ls hl => ?_)
      refine lv_goto (tgt := 9) hx hb dX4_beginMoving_39 (by decide) ?_
      exact ih_1 (q + 1) _ _ _ ⟨by omega, (by rw [show bh_bmL (bh_r S 5 b (nI 2)) b (q + 1) = _ from if_neg q_1]; exact hI), lv_sub hl [0, 1, 2] rfl⟩ (by show 8 - (q + 1) < 8 - q; omega)
    · have q_1 : ((bh_r S 5 b (nI 2)).2.2.1 11 b >>> (nI q &&& 31)) &&& nI 1 = nI 1 := c_6
      refine lv_aload_n hx hb dX4_beginMoving_29 rfl (lv_at hl 1 rfl) ?_
      refine lv_iload_n hx hb dX4_beginMoving_30 rfl (lv_at hl 2 rfl) ?_
      refine lv_iload_n hx hb dX4_beginMoving_31 rfl (lv_at hl 0 rfl) ?_
      refine bn_mui (bn_muV (As := [.int (nI b), .int (nI q)]) (rest := []) ⟨hx, hb, hml, hown, hts⟩ (cm_sendVotes l D c h ad _ (bh_bmL (bh_r S 5 b (nI 2)) b q) b q h24 (by omega) hle (by rw [hkp.1.1]; exact hn)) (cwV 2 hts gX4_beginMoving_X4_sendVotes rfl rfl rfl (by decide +kernel) ⟨Nat.le_of_ble_eq_true rfl, Nat.le_of_ble_eq_true rfl⟩) hK hI 0 3 rfl rfl rfl rfl hl.1 (Nat.le_of_ble_eq_true rfl) dX4_beginMoving_32 ⟨Nat.le_of_ble_eq_true rfl, Nat.le_of_ble_eq_true rfl⟩) hI hA (fun r_7 u_7 H locs eu_7 hI => ?_)
      obtain ⟨er_7, eu_7⟩ := eu_7
      subst er_7
      subst eu_7
      refine lv_pop hx hb dX4_beginMoving_35 rfl ?_
      refine lv_iinc (v := nI (q + 1)) (lv' := [(2, .int (nI (q + 1))), (0, .ref h), (1, .int (nI b))]) hx hb dX4_beginMoving_36 hl (k := 0) rfl (nI_1 _) (by decide) rfl (fun ls hl => ?_)
      refine lv_goto (tgt := 9) hx hb dX4_beginMoving_39 (by decide) ?_
      exact ih_1 (q + 1) _ _ _ ⟨by omega, (by rw [show bh_bmL (bh_r S 5 b (nI 2)) b (q + 1) = _ from if_pos q_1]; exact hI), lv_sub hl [0, 1, 2] rfl⟩ (by show 8 - (q + 1) < 8 - q; omega)
set_option maxHeartbeats 4000000 in
set_option maxRecDepth 100000 in
theorem cm_beginReading (l : Launch) (D : va_G) (c : bh_C) (h : Nat) (ad : Nat → Nat) (sz : Nat) (S : mS) (b : Nat) (h24 : b ≤ 24) (g : Nat) (hg : S.2.2.1 9 b = nI g) (hg24 : g ≤ 24) (ha : S.1 28 ≤ 400) (hn : S.1 0 ≤ 7) : Met l yX4_beginReading wsX4_beginReading ({ frames := 3, cells := 0, slots := 0, locals := 73 }) (va_Pc [.ref h, .int (nI b)] (bh_prm D c (bh_mw h ad c (S)) sz)) (va_Qv (fun u : mS => u = bh_bre S b g) (fun u t => bh_post D c (bh_mw h ad c u) (va_A (bh_mw h ad c (S)) sz) t) (va_A (bh_mw h ad c (S)) sz)) 0 0 (va_A (bh_mw h ad c (S)) sz) := by
  refine Met.ofW (cc := cX4_beginReading) (maxL := 2) (ret := none) (by decide) rfl ?_
  intro p e s m args below meth c0 s₁ B hml hv
  obtain ⟨rfl, hsz, hP, hK, hD0⟩ := hv
  have hx := B.exec
  have hb := B.bytes
  have hr := B.returns
  have hts := atoms_spec (ws := wsX4_beginReading) B.pre
  have hown : s.vm.findClass RX4 = some m.cls := findClass_of_methodNamed B.named
  have hlocks := B.notSynchronized
  have hinX4 : ∀ w ∈ wsX40, w ∈ wsX4_beginReading := fun _ h => List.mem_cons_of_mem _ (List.mem_append_right _ h)
  have lk_24 : (Cond.fieldLink RX4 24 "BallotHouseModel" "state" "[I").before _ s = true := hts _ (by decide +kernel)
  subst hsz
  have hI := bh_start hP hD0
  generalize hAe : va_A (bh_mw h ad c (S)) s.heap.size = A at hI ⊢
  have hA : ∀ q : Nat, s.heap.size ≤ q → A q := fun q h => by rw [← hAe]; exact Or.inr h
  clear hP hD0 hAe
  have hl := lv_entry ([.ref h, .int (nI b)]) (n := 2) (Nat.le_of_ble_eq_true rfl)
  rw [lg_entry_eq]
  generalize (lg_sl ([.ref h, .int (nI b)]) ++ List.replicate (2 - (lg_sl ([.ref h, .int (nI b)])).length) Slot.unset).toArray = ls at hl ⊢
  have hl : lv_has ls 2 [(0, .ref h), (1, .int (nI b))] := hl
  refine lv_aload_n hx hb dX4_beginReading_0 rfl (lv_at hl 0 rfl) ?_
  refine bn_get (ci := 3) (v := .ref (ad 5)) (C := RX4) (T := TX4) (N := 31) hx hb hts hinX4 hown hK hI 0 rfl rfl 5 (by decide) lk_24 rfl (rfl) dX4_beginReading_1 ?_
  refine lv_iload_n hx hb dX4_beginReading_4 rfl (lv_at hl 1 rfl) ?_
  refine lv_iconst (v := nI 1) hx hb dX4_beginReading_5 (by decide) ?_
  refine bn_iast (n := 25) (ws' := bh_mw h ad c (bh_r S 5 b (nI 1))) hx hb hK hI 5 0 rfl rfl (by omega) (by first | decide | omega) dX4_beginReading_6 rfl (fun H locs hI => ?_)
  refine lv_aload_n hx hb dX4_beginReading_7 rfl (lv_at hl 0 rfl) ?_
  refine lv_iload_n hx hb dX4_beginReading_8 rfl (lv_at hl 1 rfl) ?_
  refine bn_mui (bn_muV (As := [.int (nI b)]) (rest := []) ⟨hx, hb, hml, hown, hts⟩ (cm_sendReads l D c h ad _ (bh_r S 5 b (nI 1)) b h24 g hg hg24 ha hn) (cwV 1 hts gX4_beginReading_X4_sendReads rfl rfl rfl (by decide +kernel) ⟨Nat.le_of_ble_eq_true rfl, Nat.le_of_ble_eq_true rfl⟩) hK hI 0 3 rfl rfl rfl rfl hl.1 (Nat.le_of_ble_eq_true rfl) dX4_beginReading_9 ⟨Nat.le_of_ble_eq_true rfl, Nat.le_of_ble_eq_true rfl⟩) hI hA (fun r_1 u_1 H locs eu_1 hI => ?_)
  obtain ⟨er_1, eu_1⟩ := eu_1
  subst er_1
  subst eu_1
  refine lv_pop hx hb dX4_beginReading_12 rfl ?_
  have hkp := bh_srL_kp (bh_r S 5 b (nI 1)) b g (S.1 0)
  have hle := bh_srL_le (S := bh_r S 5 b (nI 1)) ha b g (S.1 0)
  refine lv_aload_n hx hb dX4_beginReading_13 rfl (lv_at hl 0 rfl) ?_
  refine lv_iload_n hx hb dX4_beginReading_14 rfl (lv_at hl 1 rfl) ?_
  refine vp_callSi (bn_roV (As := [.int (nI b)]) (rest := []) ⟨hx, hb, hml, hown, hts⟩ (cm_isRead l D c h ad ((bh_sr (bh_r S 5 b (nI 1)) b g).2) b h24 g ((congrFun (hkp.2 9 (by omega)).1 b).trans hg) hg24) (cwV 1 hts gX4_beginReading_X4_isRead rfl rfl rfl (by decide +kernel) ⟨Nat.le_of_ble_eq_true rfl, Nat.le_of_ble_eq_true rfl⟩) hK hI 0 3 rfl rfl rfl rfl hl.1 (Nat.le_of_ble_eq_true rfl) dX4_beginReading_15 ⟨Nat.le_of_ble_eq_true rfl, Nat.le_of_ble_eq_true rfl⟩) (fun r_2 er_2 => ?_)
  subst er_2
  refine lv_if_eq (tgt := 26) hx hb dX4_beginReading_18 (by decide) (fun c_3 => ?_) (fun c_3 => ?_)
  · have q_2 : ¬ bh_isr (bh_sr (bh_r S 5 b (nI 1)) b g).2 b g = true := by rw [bh_tf_eq c_3]; decide
    exact bn_retv hx hb hr hlocks hK ((bh_sr (bh_r S 5 b (nI 1)) b g).2) hI (by unfold bh_bre; rw [if_neg q_2]) dX4_beginReading_26
  · have q_2 := bh_tf_ne c_3
    refine lv_aload_n hx hb dX4_beginReading_21 rfl (lv_at hl 0 rfl) ?_
    refine lv_iload_n hx hb dX4_beginReading_22 rfl (lv_at hl 1 rfl) ?_
    refine bn_muv (bn_muV (As := [.int (nI b)]) (rest := []) ⟨hx, hb, hml, hown, hts⟩ (cm_beginMoving l D c h ad _ ((bh_sr (bh_r S 5 b (nI 1)) b g).2) b h24 hle (by rw [show ((bh_sr (bh_r S 5 b (nI 1)) b g).2).1 0 = S.1 0 from hkp.1.1]; exact hn)) (cwV 1 hts gX4_beginReading_X4_beginMoving rfl rfl rfl (by decide +kernel) ⟨Nat.le_of_ble_eq_true rfl, Nat.le_of_ble_eq_true rfl⟩) hK hI 0 3 rfl rfl rfl rfl hl.1 (Nat.le_of_ble_eq_true rfl) dX4_beginReading_23 ⟨Nat.le_of_ble_eq_true rfl, Nat.le_of_ble_eq_true rfl⟩) hI hA (fun u_4 H locs eu_4 hI => ?_)
    subst eu_4
    exact bn_retv hx hb hr hlocks hK (bh_bmo (bh_sr (bh_r S 5 b (nI 1)) b g).2 b) hI (by unfold bh_bre; rw [if_pos q_2]) dX4_beginReading_26
