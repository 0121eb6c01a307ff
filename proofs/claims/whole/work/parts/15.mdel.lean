set_option maxHeartbeats 4000000 in
set_option maxRecDepth 100000 in
theorem cm_comesRead (l : Launch) (D : va_G) (c : bh_C) (h : Nat) (ad : Nat → Nat) (sz : Nat) (S : mS) (b v : Nat) (h24 : b ≤ 24) (hv : v < 7) (ha : S.1 28 ≤ 400) : Met l yX4_comesRead wsX4_comesRead ({ frames := 1, cells := 0, slots := 0, locals := 27 }) (va_Pc [.ref h, .int (nI b), .int (nI v)] (bh_prm D c (bh_mw h ad c (S)) sz)) (va_Qv (fun u : mS => u = bh_cre S b v) (fun u t => bh_post D c (bh_mw h ad c u) (va_A (bh_mw h ad c (S)) sz) t) (va_A (bh_mw h ad c (S)) sz)) 0 0 (va_A (bh_mw h ad c (S)) sz) := by
  refine Met.ofW (cc := cX4_comesRead) (maxL := 3) (ret := none) (by decide) rfl ?_
  intro p e s m args below meth c0 s₁ B hml hv
  obtain ⟨rfl, hsz, hP, hK, hD0⟩ := hv
  have hx := B.exec
  have hb := B.bytes
  have hr := B.returns
  have hts := atoms_spec (ws := wsX4_comesRead) B.pre
  have hown : s.vm.findClass RX4 = some m.cls := findClass_of_methodNamed B.named
  have hlocks := B.notSynchronized
  have hinX4 : ∀ w ∈ wsX40, w ∈ wsX4_comesRead := fun _ h => List.mem_cons_of_mem _ (List.mem_append_right _ h)
  have lk_7 : (Cond.fieldLink RX4 7 "BallotHouseModel" "promise" "[I").before _ s = true := hts _ (by decide +kernel)
  subst hsz
  have hI := bh_start hP hD0
  generalize hAe : va_A (bh_mw h ad c (S)) s.heap.size = A at hI ⊢
  have hA : ∀ q : Nat, s.heap.size ≤ q → A q := fun q h => by rw [← hAe]; exact Or.inr h
  clear hP hD0 hAe
  have hl := lv_entry ([.ref h, .int (nI b), .int (nI v)]) (n := 3) (Nat.le_of_ble_eq_true rfl)
  rw [lg_entry_eq]
  generalize (lg_sl ([.ref h, .int (nI b), .int (nI v)]) ++ List.replicate (3 - (lg_sl ([.ref h, .int (nI b), .int (nI v)])).length) Slot.unset).toArray = ls at hl ⊢
  have hl : lv_has ls 3 [(0, .ref h), (1, .int (nI b)), (2, .int (nI v))] := hl
  refine lv_aload_n hx hb dX4_comesRead_0 rfl (lv_at hl 0 rfl) ?_
  refine bn_get (ci := 3) (v := .ref (ad 1)) (C := RX4) (T := TX4) (N := 31) hx hb hts hinX4 hown hK hI 0 rfl rfl 1 (by decide) lk_7 rfl (rfl) dX4_comesRead_1 ?_
  refine lv_iload_n hx hb dX4_comesRead_4 rfl (lv_at hl 2 rfl) ?_
  refine bn_iald (n := 7) (v := S.2.2.1 1 v) hx hb hK hI 1 0 rfl rfl (by omega) (by first | decide | omega) (rfl) dX4_comesRead_5 ?_
  refine lv_iload_n hx hb dX4_comesRead_6 rfl (lv_at hl 1 rfl) ?_
  refine lv_icmp_le (tgt := 11) hx hb dX4_comesRead_7 (by decide) (fun c_1 => ?_) (fun c_1 => ?_)
  · refine lv_aload_n hx hb dX4_comesRead_11 rfl (lv_at hl 0 rfl) ?_
    refine bn_get (ci := 3) (v := .ref (ad 1)) (C := RX4) (T := TX4) (N := 31) hx hb hts hinX4 hown hK hI 0 rfl rfl 1 (by decide) lk_7 rfl (rfl) dX4_comesRead_12 ?_
    refine lv_iload_n hx hb dX4_comesRead_15 rfl (lv_at hl 2 rfl) ?_
    refine lv_iload_n hx hb dX4_comesRead_16 rfl (lv_at hl 1 rfl) ?_
    refine bn_iast (n := 7) (ws' := bh_mw h ad c (bh_r S 1 v (nI b))) hx hb hK hI 1 0 rfl rfl (by omega) (by first | decide | omega) dX4_comesRead_17 rfl (fun H locs hI => ?_)
    refine lv_aload_n hx hb dX4_comesRead_18 rfl (lv_at hl 0 rfl) ?_
    refine lv_iconst (v := nI 3) hx hb dX4_comesRead_19 (by decide) ?_
    refine lv_iload_n hx hb dX4_comesRead_20 rfl (lv_at hl 1 rfl) ?_
    refine lv_iload_n hx hb dX4_comesRead_21 rfl (lv_at hl 2 rfl) ?_
    refine lv_iconst (v := -1) hx hb dX4_comesRead_22 (by decide) ?_
    refine lv_lconst (v := 0) hx hb dX4_comesRead_23 (by decide) ?_
    refine bn_muv (bn_muV (As := [.int (nI 3), .int (nI b), .int (nI v), .int (-1), .long (0)]) (rest := []) ⟨hx, hb, hml, hown, hts⟩ (cm_put3 l D c h ad _ (bh_r S 1 v (nI b)) (nI b) v (-1) (0) (ha) hv) (cwV 5 hts gX4_comesRead_X4_put rfl rfl rfl (by decide +kernel) ⟨Nat.le_of_ble_eq_true rfl, Nat.le_of_ble_eq_true rfl⟩) hK hI 0 3 rfl rfl rfl rfl hl.1 (Nat.le_of_ble_eq_true rfl) dX4_comesRead_24 ⟨Nat.le_of_ble_eq_true rfl, Nat.le_of_ble_eq_true rfl⟩) hI hA (fun u_2 H locs eu_2 hI => ?_)
    subst eu_2
    exact bn_retv hx hb hr hlocks hK (bh_put (bh_r S 1 v (nI b)) (nI 3) (nI b) (nI v) (-1) 0 (fun k => S.2.2.1 2 (8 * v + k)) (fun k => S.2.2.2 3 (8 * v + k))) hI (by unfold bh_cre; rw [if_pos c_1]) dX4_comesRead_27
  · exact bn_retv hx hb hr hlocks hK (S) hI (by unfold bh_cre; rw [if_neg c_1]) dX4_comesRead_10
set_option maxHeartbeats 4000000 in
set_option maxRecDepth 100000 in
theorem cm_comesVote (l : Launch) (D : va_G) (c : bh_C) (h : Nat) (ad : Nat → Nat) (sz : Nat) (S : mS) (b v q : Nat) (x : Int64) (h24 : b ≤ 24) (hv : v < 7) (hq : q < 8) (ha : S.1 28 ≤ 400) : Met l yX4_comesVote wsX4_comesVote ({ frames := 1, cells := 0, slots := 0, locals := 27 }) (va_Pc [.ref h, .int (nI b), .int (nI v), .int (nI q), .long (x)] (bh_prm D c (bh_mw h ad c (S)) sz)) (va_Qv (fun u : mS => u = bh_cvo S b v q x) (fun u t => bh_post D c (bh_mw h ad c u) (va_A (bh_mw h ad c (S)) sz) t) (va_A (bh_mw h ad c (S)) sz)) 0 0 (va_A (bh_mw h ad c (S)) sz) := by
  refine Met.ofW (cc := cX4_comesVote) (maxL := 6) (ret := none) (by decide) rfl ?_
  intro p e s m args below meth c0 s₁ B hml hv
  obtain ⟨rfl, hsz, hP, hK, hD0⟩ := hv
  have hx := B.exec
  have hb := B.bytes
  have hr := B.returns
  have hts := atoms_spec (ws := wsX4_comesVote) B.pre
  have hown : s.vm.findClass RX4 = some m.cls := findClass_of_methodNamed B.named
  have hlocks := B.notSynchronized
  have hinX4 : ∀ w ∈ wsX40, w ∈ wsX4_comesVote := fun _ h => List.mem_cons_of_mem _ (List.mem_append_right _ h)
  have lk_7 : (Cond.fieldLink RX4 7 "BallotHouseModel" "promise" "[I").before _ s = true := hts _ (by decide +kernel)
  have lk_13 : (Cond.fieldLink RX4 13 "BallotHouseModel" "vote" "[I").before _ s = true := hts _ (by decide +kernel)
  have lk_16 : (Cond.fieldLink RX4 16 "BallotHouseModel" "value" "[J").before _ s = true := hts _ (by decide +kernel)
  have lk_57 : (Cond.fieldLink RX4 57 "BallotHouseModel" "voted" "[I").before _ s = true := hts _ (by decide +kernel)
  subst hsz
  have hI := bh_start hP hD0
  generalize hAe : va_A (bh_mw h ad c (S)) s.heap.size = A at hI ⊢
  have hA : ∀ q : Nat, s.heap.size ≤ q → A q := fun q h => by rw [← hAe]; exact Or.inr h
  clear hP hD0 hAe
  have hl := lv_entry ([.ref h, .int (nI b), .int (nI v), .int (nI q), .long (x)]) (n := 6) (Nat.le_of_ble_eq_true rfl)
  rw [lg_entry_eq]
  generalize (lg_sl ([.ref h, .int (nI b), .int (nI v), .int (nI q), .long (x)]) ++ List.replicate (6 - (lg_sl ([.ref h, .int (nI b), .int (nI v), .int (nI q), .long (x)])).length) Slot.unset).toArray = ls at hl ⊢
  have hl : lv_has ls 6 [(0, .ref h), (1, .int (nI b)), (2, .int (nI v)), (3, .int (nI q)), (4, .long (x))] := hl
  refine lv_aload_n hx hb dX4_comesVote_0 rfl (lv_at hl 0 rfl) ?_
  refine bn_get (ci := 3) (v := .ref (ad 1)) (C := RX4) (T := TX4) (N := 31) hx hb hts hinX4 hown hK hI 0 rfl rfl 1 (by decide) lk_7 rfl (rfl) dX4_comesVote_1 ?_
  refine lv_iload_n hx hb dX4_comesVote_4 rfl (lv_at hl 2 rfl) ?_
  refine bn_iald (n := 7) (v := S.2.2.1 1 v) hx hb hK hI 1 0 rfl rfl (by omega) (by first | decide | omega) (rfl) dX4_comesVote_5 ?_
  refine lv_iload_n hx hb dX4_comesVote_6 rfl (lv_at hl 1 rfl) ?_
  refine lv_icmp_le (tgt := 11) hx hb dX4_comesVote_7 (by decide) (fun c_1 => ?_) (fun c_1 => ?_)
  · refine lv_aload_n hx hb dX4_comesVote_11 rfl (lv_at hl 0 rfl) ?_
    refine bn_get (ci := 3) (v := .ref (ad 1)) (C := RX4) (T := TX4) (N := 31) hx hb hts hinX4 hown hK hI 0 rfl rfl 1 (by decide) lk_7 rfl (rfl) dX4_comesVote_12 ?_
    refine lv_iload_n hx hb dX4_comesVote_15 rfl (lv_at hl 2 rfl) ?_
    refine lv_iload_n hx hb dX4_comesVote_16 rfl (lv_at hl 1 rfl) ?_
    refine bn_iast (n := 7) (ws' := bh_mw h ad c (bh_r S 1 v (nI b))) hx hb hK hI 1 0 rfl rfl (by omega) (by first | decide | omega) dX4_comesVote_17 rfl (fun H locs hI => ?_)
    refine lv_aload_n hx hb dX4_comesVote_18 rfl (lv_at hl 0 rfl) ?_
    refine bn_get (ci := 3) (v := .ref (ad 2)) (C := RX4) (T := TX4) (N := 31) hx hb hts hinX4 hown hK hI 0 rfl rfl 2 (by decide) lk_13 rfl (rfl) dX4_comesVote_19 ?_
    refine lv_bipush (v := nI 8) hx hb dX4_comesVote_22 (by decide) ?_
    refine lv_iload_n hx hb dX4_comesVote_24 rfl (lv_at hl 2 rfl) ?_
    refine bn_imul hx hb dX4_comesVote_25 ?_
    refine lv_iload_n hx hb dX4_comesVote_26 rfl (lv_at hl 3 rfl) ?_
    refine bn_iadd hx hb dX4_comesVote_27 ?_
    refine lv_iload_n hx hb dX4_comesVote_28 rfl (lv_at hl 1 rfl) ?_
    refine bn_iast (n := 56) (ws' := bh_mw h ad c (bh_r (bh_r S 1 v (nI b)) 2 ((8 * v) + q) (nI b))) hx hb hK hI 2 0 rfl rfl (by omega) (by first | decide | omega) dX4_comesVote_29 rfl (fun H locs hI => ?_)
    refine lv_aload_n hx hb dX4_comesVote_30 rfl (lv_at hl 0 rfl) ?_
    refine bn_get (ci := 3) (v := .ref (ad 3)) (C := RX4) (T := TX4) (N := 31) hx hb hts hinX4 hown hK hI 0 rfl rfl 3 (by decide) lk_16 rfl (rfl) dX4_comesVote_31 ?_
    refine lv_bipush (v := nI 8) hx hb dX4_comesVote_34 (by decide) ?_
    refine lv_iload_n hx hb dX4_comesVote_36 rfl (lv_at hl 2 rfl) ?_
    refine bn_imul hx hb dX4_comesVote_37 ?_
    refine lv_iload_n hx hb dX4_comesVote_38 rfl (lv_at hl 3 rfl) ?_
    refine bn_iadd hx hb dX4_comesVote_39 ?_
    refine lv_lload hx hb dX4_comesVote_40 (lv_at hl 4 rfl) ?_
    refine bn_last (n := 56) (ws' := bh_mw h ad c (bh_l (bh_r (bh_r S 1 v (nI b)) 2 ((8 * v) + q) (nI b)) 3 ((8 * v) + q) x)) hx hb hK hI 3 1 rfl rfl (by omega) (by first | decide | omega) dX4_comesVote_42 rfl (fun H locs hI => ?_)
    refine lv_aload_n hx hb dX4_comesVote_43 rfl (lv_at hl 0 rfl) ?_
    refine bn_get (ci := 3) (v := .ref (ad 16)) (C := RX4) (T := TX4) (N := 31) hx hb hts hinX4 hown hK hI 0 rfl rfl 16 (by decide) lk_57 rfl (rfl) dX4_comesVote_44 ?_
    refine lv_bipush (v := nI 8) hx hb dX4_comesVote_47 (by decide) ?_
    refine lv_iload_n hx hb dX4_comesVote_49 rfl (lv_at hl 1 rfl) ?_
    refine bn_imul hx hb dX4_comesVote_50 ?_
    refine lv_iload_n hx hb dX4_comesVote_51 rfl (lv_at hl 3 rfl) ?_
    refine bn_iadd hx hb dX4_comesVote_52 ?_
    refine lv_dup2_11 hx hb dX4_comesVote_53 rfl rfl ?_
    refine bn_iald (n := 200) (v := S.2.2.1 16 ((8 * b) + q)) hx hb hK hI 16 0 rfl rfl (by omega) (by first | decide | omega) (rfl) dX4_comesVote_54 ?_
    refine lv_iconst (v := nI 1) hx hb dX4_comesVote_55 (by decide) ?_
    refine lv_iload_n hx hb dX4_comesVote_56 rfl (lv_at hl 2 rfl) ?_
    refine lv_ishl hx hb dX4_comesVote_57 ?_
    refine lv_ior hx hb dX4_comesVote_58 ?_
    refine bn_iast (n := 200) (ws' := bh_mw h ad c (bh_r (bh_l (bh_r (bh_r S 1 v (nI b)) 2 ((8 * v) + q) (nI b)) 3 ((8 * v) + q) x) 16 ((8 * b) + q) ((S.2.2.1 16 ((8 * b) + q)) ||| ((nI 1) <<< ((nI v) &&& 31))))) hx hb hK hI 16 0 rfl rfl (by omega) (by first | decide | omega) dX4_comesVote_59 rfl (fun H locs hI => ?_)
    refine lv_aload_n hx hb dX4_comesVote_60 rfl (lv_at hl 0 rfl) ?_
    refine lv_iconst (v := nI 5) hx hb dX4_comesVote_61 (by decide) ?_
    refine lv_iload_n hx hb dX4_comesVote_62 rfl (lv_at hl 1 rfl) ?_
    refine lv_iload_n hx hb dX4_comesVote_63 rfl (lv_at hl 2 rfl) ?_
    refine lv_iload_n hx hb dX4_comesVote_64 rfl (lv_at hl 3 rfl) ?_
    refine lv_lconst (v := 0) hx hb dX4_comesVote_65 (by decide) ?_
    refine bn_muv (bn_muV (As := [.int (nI 5), .int (nI b), .int (nI v), .int (nI q), .long (0)]) (rest := []) ⟨hx, hb, hml, hown, hts⟩ (cm_put l D c h ad _ (bh_r (bh_l (bh_r (bh_r S 1 v (nI b)) 2 ((8 * v) + q) (nI b)) 3 ((8 * v) + q) x) 16 ((8 * b) + q) ((S.2.2.1 16 ((8 * b) + q)) ||| ((nI 1) <<< ((nI v) &&& 31)))) 5 (nI b) (nI v) (nI q) (0) (ha) (by omega) (by omega)) (cwV 5 hts gX4_comesVote_X4_put rfl rfl rfl (by decide +kernel) ⟨Nat.le_of_ble_eq_true rfl, Nat.le_of_ble_eq_true rfl⟩) hK hI 0 3 rfl rfl rfl rfl hl.1 (Nat.le_of_ble_eq_true rfl) dX4_comesVote_66 ⟨Nat.le_of_ble_eq_true rfl, Nat.le_of_ble_eq_true rfl⟩) hI hA (fun u_2 H locs eu_2 hI => ?_)
    subst eu_2
    exact bn_retv hx hb hr hlocks hK (bh_put (bh_r (bh_l (bh_r (bh_r S 1 v (nI b)) 2 ((8 * v) + q) (nI b)) 3 ((8 * v) + q) x) 16 ((8 * b) + q) ((S.2.2.1 16 ((8 * b) + q)) ||| ((nI 1) <<< ((nI v) &&& 31)))) (nI 5) (nI b) (nI v) (nI q) 0 bh_z0 bh_z1) hI (by unfold bh_cvo; rw [if_pos c_1]; rfl) dX4_comesVote_69
  · exact bn_retv hx hb hr hlocks hK (S) hI (by unfold bh_cvo; rw [if_neg c_1]) dX4_comesVote_10
set_option maxHeartbeats 4000000 in
set_option maxRecDepth 100000 in
theorem cm_comesReadAnswer (l : Launch) (D : va_G) (c : bh_C) (h : Nat) (ad : Nat → Nat) (sz : Nat) (S : mS) (b v : Nat) (h24 : b ≤ 24) (hv : v < 7) (g : Nat) (hg : S.2.2.1 9 b = nI g) (hg24 : g ≤ 24) (ha : S.1 28 ≤ 400) (hn : S.1 0 ≤ 7) : Met l yX4_comesReadAnswer wsX4_comesReadAnswer ({ frames := 3, cells := 0, slots := 0, locals := 73 }) (va_Pc [.ref h, .int (nI b), .int (nI v)] (bh_prm D c (bh_mw h ad c (S)) sz)) (va_Qv (fun u : mS => u = bh_cra S b v g) (fun u t => bh_post D c (bh_mw h ad c u) (va_A (bh_mw h ad c (S)) sz) t) (va_A (bh_mw h ad c (S)) sz)) 0 0 (va_A (bh_mw h ad c (S)) sz) := by
  refine Met.ofW (cc := cX4_comesReadAnswer) (maxL := 4) (ret := none) (by decide) rfl ?_
  intro p e s m args below meth c0 s₁ B hml hv
  obtain ⟨rfl, hsz, hP, hK, hD0⟩ := hv
  have hx := B.exec
  have hb := B.bytes
  have hr := B.returns
  have hts := atoms_spec (ws := wsX4_comesReadAnswer) B.pre
  have hown : s.vm.findClass RX4 = some m.cls := findClass_of_methodNamed B.named
  have hlocks := B.notSynchronized
  have hinX4 : ∀ w ∈ wsX40, w ∈ wsX4_comesReadAnswer := fun _ h => List.mem_cons_of_mem _ (List.mem_append_right _ h)
  have lk_24 : (Cond.fieldLink RX4 24 "BallotHouseModel" "state" "[I").before _ s = true := hts _ (by decide +kernel)
  have lk_39 : (Cond.fieldLink RX4 39 "BallotHouseModel" "readers" "[I").before _ s = true := hts _ (by decide +kernel)
  have lk_42 : (Cond.fieldLink RX4 42 "BallotHouseModel" "found" "[I").before _ s = true := hts _ (by decide +kernel)
  have lk_51 : (Cond.fieldLink RX4 51 "BallotHouseModel" "foundBy" "[I").before _ s = true := hts _ (by decide +kernel)
  have lk_60 : (Cond.fieldLink RX4 60 "BallotHouseModel" "says" "[J").before _ s = true := hts _ (by decide +kernel)
  have lk_84 : (Cond.fieldLink RX4 84 "BallotHouseModel" "gotVote" "[I").before _ s = true := hts _ (by decide +kernel)
  have lk_87 : (Cond.fieldLink RX4 87 "BallotHouseModel" "gotValue" "[J").before _ s = true := hts _ (by decide +kernel)
  subst hsz
  have hI := bh_start hP hD0
  generalize hAe : va_A (bh_mw h ad c (S)) s.heap.size = A at hI ⊢
  have hA : ∀ q : Nat, s.heap.size ≤ q → A q := fun q h => by rw [← hAe]; exact Or.inr h
  clear hP hD0 hAe
  have hl := lv_entry ([.ref h, .int (nI b), .int (nI v)]) (n := 4) (Nat.le_of_ble_eq_true rfl)
  rw [lg_entry_eq]
  generalize (lg_sl ([.ref h, .int (nI b), .int (nI v)]) ++ List.replicate (4 - (lg_sl ([.ref h, .int (nI b), .int (nI v)])).length) Slot.unset).toArray = ls at hl ⊢
  have hl : lv_has ls 4 [(0, .ref h), (1, .int (nI b)), (2, .int (nI v))] := hl
  refine lv_aload_n hx hb dX4_comesReadAnswer_0 rfl (lv_at hl 0 rfl) ?_
  refine bn_get (ci := 3) (v := .ref (ad 5)) (C := RX4) (T := TX4) (N := 31) hx hb hts hinX4 hown hK hI 0 rfl rfl 5 (by decide) lk_24 rfl (rfl) dX4_comesReadAnswer_1 ?_
  refine lv_iload_n hx hb dX4_comesReadAnswer_4 rfl (lv_at hl 1 rfl) ?_
  refine bn_iald (n := 25) (v := S.2.2.1 5 b) hx hb hK hI 5 0 rfl rfl (by omega) (by first | decide | omega) (rfl) dX4_comesReadAnswer_5 ?_
  refine lv_iconst (v := nI 1) hx hb dX4_comesReadAnswer_6 (by decide) ?_
  refine lv_icmp_ne (tgt := 24) hx hb dX4_comesReadAnswer_7 (by decide) (fun c_1 => ?_) (fun c_1 => ?_)
  · exact bn_retv hx hb hr hlocks hK (S) hI (by unfold bh_cra; rw [if_neg (fun z => c_1 z.1)]) dX4_comesReadAnswer_24
  · refine lv_aload_n hx hb dX4_comesReadAnswer_10 rfl (lv_at hl 0 rfl) ?_
    refine bn_get (ci := 3) (v := .ref (ad 10)) (C := RX4) (T := TX4) (N := 31) hx hb hts hinX4 hown hK hI 0 rfl rfl 10 (by decide) lk_39 rfl (rfl) dX4_comesReadAnswer_11 ?_
    refine lv_iload_n hx hb dX4_comesReadAnswer_14 rfl (lv_at hl 1 rfl) ?_
    refine bn_iald (n := 25) (v := S.2.2.1 10 b) hx hb hK hI 10 0 rfl rfl (by omega) (by first | decide | omega) (rfl) dX4_comesReadAnswer_15 ?_
    refine lv_iload_n hx hb dX4_comesReadAnswer_16 rfl (lv_at hl 2 rfl) ?_
    refine lv_ishr hx hb dX4_comesReadAnswer_17 ?_
    refine lv_iconst (v := nI 1) hx hb dX4_comesReadAnswer_18 (by decide) ?_
    refine lv_iand hx hb dX4_comesReadAnswer_19 ?_
    refine lv_iconst (v := nI 1) hx hb dX4_comesReadAnswer_20 (by decide) ?_
    refine lv_icmp_ne (tgt := 25) hx hb dX4_comesReadAnswer_21 (by decide) (fun c_2 => ?_) (fun c_2 => ?_)
    · have q_0 : S.2.2.1 5 b = nI 1 ∧ ¬ (S.2.2.1 10 b >>> (nI v &&& 31)) &&& nI 1 = nI 1 := ⟨c_1, c_2⟩
      refine lv_aload_n hx hb dX4_comesReadAnswer_25 rfl (lv_at hl 0 rfl) ?_
      refine bn_get (ci := 3) (v := .ref (ad 10)) (C := RX4) (T := TX4) (N := 31) hx hb hts hinX4 hown hK hI 0 rfl rfl 10 (by decide) lk_39 rfl (rfl) dX4_comesReadAnswer_26 ?_
      refine lv_iload_n hx hb dX4_comesReadAnswer_29 rfl (lv_at hl 1 rfl) ?_
      refine lv_dup2_11 hx hb dX4_comesReadAnswer_30 rfl rfl ?_
      refine bn_iald (n := 25) (v := S.2.2.1 10 b) hx hb hK hI 10 0 rfl rfl (by omega) (by first | decide | omega) (rfl) dX4_comesReadAnswer_31 ?_
      refine lv_iconst (v := nI 1) hx hb dX4_comesReadAnswer_32 (by decide) ?_
      refine lv_iload_n hx hb dX4_comesReadAnswer_33 rfl (lv_at hl 2 rfl) ?_
      refine lv_ishl hx hb dX4_comesReadAnswer_34 ?_
      refine lv_ior hx hb dX4_comesReadAnswer_35 ?_
      refine bn_iast (n := 25) (ws' := bh_mw h ad c (bh_r S 10 b ((S.2.2.1 10 b) ||| ((nI 1) <<< ((nI v) &&& 31))))) hx hb hK hI 10 0 rfl rfl (by omega) (by first | decide | omega) dX4_comesReadAnswer_36 rfl (fun H locs hI => ?_)
      refine lv_iconst (v := nI 0) hx hb dX4_comesReadAnswer_37 (by decide) ?_
      refine lv_istore_n (lv' := [(3, .int (nI 0)), (0, .ref h), (1, .int (nI b)), (2, .int (nI v))]) hx hb dX4_comesReadAnswer_38 rfl hl (by decide) rfl (fun ls hl => ?_)
      refine bh_loop (σ := Nat) (fun (q : Nat) H locs ls => q ≤ 8 ∧ bh_I D (bh_mw h ad c (bh_raL (bh_r S 10 b (S.2.2.1 10 b ||| bh_bit v)) b q)) A s.heap H locs ∧ lv_has ls 4 [(3, .int (nI q)), (0, .ref h), (1, .int (nI b)), (2, .int (nI v))]) (fun (q : Nat) => 8 - q) (fun q H locs ls hx_3 ih_3 => ?_) 0 _ _ _ ⟨Nat.zero_le 8, hI, lv_sub hl [0, 1, 2, 3] rfl⟩
      clear hl hI
      obtain ⟨hq, hI, hl⟩ := hx_3
      refine lv_iload_n hx hb dX4_comesReadAnswer_39 rfl (lv_at hl 0 rfl) ?_
      refine lv_bipush (v := nI 8) hx hb dX4_comesReadAnswer_40 (by decide) ?_
      refine bn_cmp_ge (tgt := 120) hx hb (by omega) (by omega) dX4_comesReadAnswer_42 (by decide) (fun c_4 => ?_) (fun c_4 => ?_)
      · obtain rfl : q = 8 := by omega
        have hn2 := bh_ra_n S b v
        rw [bh_ra_def] at hI
        refine lv_aload_n hx hb dX4_comesReadAnswer_120 rfl (lv_at hl 1 rfl) ?_
        refine lv_iload_n hx hb dX4_comesReadAnswer_121 rfl (lv_at hl 2 rfl) ?_
        refine vp_callSi (bn_roV (As := [.int (nI b)]) (rest := []) ⟨hx, hb, hml, hown, hts⟩ (cm_isRead l D c h ad (bh_ra S b v) b h24 g ((congrFun (bh_ra_9 S b v) b).trans hg) hg24) (cwV 1 hts gX4_comesReadAnswer_X4_isRead rfl rfl rfl (by decide +kernel) ⟨Nat.le_of_ble_eq_true rfl, Nat.le_of_ble_eq_true rfl⟩) hK hI 0 3 rfl rfl rfl rfl hl.1 (Nat.le_of_ble_eq_true rfl) dX4_comesReadAnswer_122 ⟨Nat.le_of_ble_eq_true rfl, Nat.le_of_ble_eq_true rfl⟩) (fun r_5 er_5 => ?_)
        subst er_5
        refine lv_if_eq (tgt := 133) hx hb dX4_comesReadAnswer_125 (by decide) (fun c_6 => ?_) (fun c_6 => ?_)
        · have q_2 : ¬ bh_isr (bh_ra S b v) b g = true := by rw [bh_tf_eq c_6]; decide
          exact bn_retv hx hb hr hlocks hK (bh_ra S b v) hI (by unfold bh_cra; rw [if_pos q_0, if_neg q_2]) dX4_comesReadAnswer_133
        · have q_2 := bh_tf_ne c_6
          refine lv_aload_n hx hb dX4_comesReadAnswer_128 rfl (lv_at hl 1 rfl) ?_
          refine lv_iload_n hx hb dX4_comesReadAnswer_129 rfl (lv_at hl 2 rfl) ?_
          refine bn_muv (bn_muV (As := [.int (nI b)]) (rest := []) ⟨hx, hb, hml, hown, hts⟩ (cm_beginMoving l D c h ad _ (bh_ra S b v) b h24 (by rw [hn2]; exact ha) (by rw [hn2]; exact hn)) (cwV 1 hts gX4_comesReadAnswer_X4_beginMoving rfl rfl rfl (by decide +kernel) ⟨Nat.le_of_ble_eq_true rfl, Nat.le_of_ble_eq_true rfl⟩) hK hI 0 3 rfl rfl rfl rfl hl.1 (Nat.le_of_ble_eq_true rfl) dX4_comesReadAnswer_130 ⟨Nat.le_of_ble_eq_true rfl, Nat.le_of_ble_eq_true rfl⟩) hI hA (fun u_7 H locs eu_7 hI => ?_)
          subst eu_7
          exact bn_retv hx hb hr hlocks hK (bh_bmo (bh_ra S b v) b) hI (by unfold bh_cra; rw [if_pos q_0, if_pos q_2]) dX4_comesReadAnswer_133
      · refine lv_aload_n hx hb dX4_comesReadAnswer_45 rfl (lv_at hl 1 rfl) ?_
        refine bn_get (ci := 3) (v := .ref (ad 29)) (C := RX4) (T := TX4) (N := 31) hx hb hts hinX4 hown hK hI 0 rfl rfl 29 (by decide) lk_84 rfl (rfl) dX4_comesReadAnswer_46 ?_
        refine lv_iload_n hx hb dX4_comesReadAnswer_49 rfl (lv_at hl 0 rfl) ?_
        refine bn_iald (n := 8) (v := (bh_raL (bh_r S 10 b (S.2.2.1 10 b ||| bh_bit v)) b q).2.2.1 29 q) hx hb hK hI 25 0 rfl rfl (by omega) (by first | decide | omega) (rfl) dX4_comesReadAnswer_50 ?_
        refine lv_aload_n hx hb dX4_comesReadAnswer_51 rfl (lv_at hl 1 rfl) ?_
        refine bn_get (ci := 3) (v := .ref (ad 14)) (C := RX4) (T := TX4) (N := 31) hx hb hts hinX4 hown hK hI 0 rfl rfl 14 (by decide) lk_51 rfl (rfl) dX4_comesReadAnswer_52 ?_
        refine lv_bipush (v := nI 8) hx hb dX4_comesReadAnswer_55 (by decide) ?_
        refine lv_iload_n hx hb dX4_comesReadAnswer_57 rfl (lv_at hl 2 rfl) ?_
        refine bn_imul hx hb dX4_comesReadAnswer_58 ?_
        refine lv_iload_n hx hb dX4_comesReadAnswer_59 rfl (lv_at hl 0 rfl) ?_
        refine bn_iadd hx hb dX4_comesReadAnswer_60 ?_
        refine bn_iald (n := 200) (v := (bh_raL (bh_r S 10 b (S.2.2.1 10 b ||| bh_bit v)) b q).2.2.1 14 ((8 * b) + q)) hx hb hK hI 14 0 rfl rfl (by omega) (by first | decide | omega) (rfl) dX4_comesReadAnswer_61 ?_
        refine lv_icmp_gt (tgt := 68) hx hb dX4_comesReadAnswer_62 (by decide) (fun c_8 => ?_) (fun c_8 => ?_)
        · have q_1 : (bh_raL (bh_r S 10 b (S.2.2.1 10 b ||| bh_bit v)) b q).2.2.1 14 (8 * b + q) < (bh_raL (bh_r S 10 b (S.2.2.1 10 b ||| bh_bit v)) b q).2.2.1 29 q := c_8
          refine lv_aload_n hx hb dX4_comesReadAnswer_68 rfl (lv_at hl 1 rfl) ?_
          refine bn_get (ci := 3) (v := .ref (ad 14)) (C := RX4) (T := TX4) (N := 31) hx hb hts hinX4 hown hK hI 0 rfl rfl 14 (by decide) lk_51 rfl (rfl) dX4_comesReadAnswer_69 ?_
          refine lv_bipush (v := nI 8) hx hb dX4_comesReadAnswer_72 (by decide) ?_
          refine lv_iload_n hx hb dX4_comesReadAnswer_74 rfl (lv_at hl 2 rfl) ?_
          refine bn_imul hx hb dX4_comesReadAnswer_75 ?_
          refine lv_iload_n hx hb dX4_comesReadAnswer_76 rfl (lv_at hl 0 rfl) ?_
          refine bn_iadd hx hb dX4_comesReadAnswer_77 ?_
          refine lv_aload_n hx hb dX4_comesReadAnswer_78 rfl (lv_at hl 1 rfl) ?_
          refine bn_get (ci := 3) (v := .ref (ad 29)) (C := RX4) (T := TX4) (N := 31) hx hb hts hinX4 hown hK hI 0 rfl rfl 29 (by decide) lk_84 rfl (rfl) dX4_comesReadAnswer_79 ?_
          refine lv_iload_n hx hb dX4_comesReadAnswer_82 rfl (lv_at hl 0 rfl) ?_
          refine bn_iald (n := 8) (v := (bh_raL (bh_r S 10 b (S.2.2.1 10 b ||| bh_bit v)) b q).2.2.1 29 q) hx hb hK hI 25 0 rfl rfl (by omega) (by first | decide | omega) (rfl) dX4_comesReadAnswer_83 ?_
          refine bn_iast (n := 200) (ws' := bh_mw h ad c (bh_r (bh_raL (bh_r S 10 b (S.2.2.1 10 b ||| bh_bit v)) b q) 14 ((8 * b) + q) ((bh_raL (bh_r S 10 b (S.2.2.1 10 b ||| bh_bit v)) b q).2.2.1 29 q))) hx hb hK hI 14 0 rfl rfl (by omega) (by first | decide | omega) dX4_comesReadAnswer_84 rfl (fun H locs hI => ?_)
          refine lv_aload_n hx hb dX4_comesReadAnswer_85 rfl (lv_at hl 1 rfl) ?_
          refine bn_get (ci := 3) (v := .ref (ad 17)) (C := RX4) (T := TX4) (N := 31) hx hb hts hinX4 hown hK hI 0 rfl rfl 17 (by decide) lk_60 rfl (rfl) dX4_comesReadAnswer_86 ?_
          refine lv_bipush (v := nI 8) hx hb dX4_comesReadAnswer_89 (by decide) ?_
          refine lv_iload_n hx hb dX4_comesReadAnswer_91 rfl (lv_at hl 2 rfl) ?_
          refine bn_imul hx hb dX4_comesReadAnswer_92 ?_
          refine lv_iload_n hx hb dX4_comesReadAnswer_93 rfl (lv_at hl 0 rfl) ?_
          refine bn_iadd hx hb dX4_comesReadAnswer_94 ?_
          refine lv_aload_n hx hb dX4_comesReadAnswer_95 rfl (lv_at hl 1 rfl) ?_
          refine bn_get (ci := 3) (v := .ref (ad 30)) (C := RX4) (T := TX4) (N := 31) hx hb hts hinX4 hown hK hI 0 rfl rfl 30 (by decide) lk_87 rfl (rfl) dX4_comesReadAnswer_96 ?_
          refine lv_iload_n hx hb dX4_comesReadAnswer_99 rfl (lv_at hl 0 rfl) ?_
          refine bn_lald (n := 8) (v := (bh_raL (bh_r S 10 b (S.2.2.1 10 b ||| bh_bit v)) b q).2.2.2 30 q) hx hb hK hI 26 1 rfl rfl (by omega) (by first | decide | omega) (rfl) dX4_comesReadAnswer_100 ?_
          refine bn_last (n := 200) (ws' := bh_mw h ad c (bh_l (bh_r (bh_raL (bh_r S 10 b (S.2.2.1 10 b ||| bh_bit v)) b q) 14 ((8 * b) + q) ((bh_raL (bh_r S 10 b (S.2.2.1 10 b ||| bh_bit v)) b q).2.2.1 29 q)) 17 ((8 * b) + q) ((bh_raL (bh_r S 10 b (S.2.2.1 10 b ||| bh_bit v)) b q).2.2.2 30 q))) hx hb hK hI 17 1 rfl rfl (by omega) (by first | decide | omega) dX4_comesReadAnswer_101 rfl (fun H locs hI => ?_)
          refine lv_aload_n hx hb dX4_comesReadAnswer_102 rfl (lv_at hl 1 rfl) ?_
          refine bn_get (ci := 3) (v := .ref (ad 11)) (C := RX4) (T := TX4) (N := 31) hx hb hts hinX4 hown hK hI 0 rfl rfl 11 (by decide) lk_42 rfl (rfl) dX4_comesReadAnswer_103 ?_
          refine lv_iload_n hx hb dX4_comesReadAnswer_106 rfl (lv_at hl 2 rfl) ?_
          refine lv_dup2_11 hx hb dX4_comesReadAnswer_107 rfl rfl ?_
          refine bn_iald (n := 25) (v := (bh_raL (bh_r S 10 b (S.2.2.1 10 b ||| bh_bit v)) b q).2.2.1 11 b) hx hb hK hI 11 0 rfl rfl (by omega) (by first | decide | omega) (rfl) dX4_comesReadAnswer_108 ?_
          refine lv_iconst (v := nI 1) hx hb dX4_comesReadAnswer_109 (by decide) ?_
          refine lv_iload_n hx hb dX4_comesReadAnswer_110 rfl (lv_at hl 0 rfl) ?_
          refine lv_ishl hx hb dX4_comesReadAnswer_111 ?_
          refine lv_ior hx hb dX4_comesReadAnswer_112 ?_
          refine bn_iast (n := 25) (ws' := bh_mw h ad c (bh_r (bh_l (bh_r (bh_raL (bh_r S 10 b (S.2.2.1 10 b ||| bh_bit v)) b q) 14 ((8 * b) + q) ((bh_raL (bh_r S 10 b (S.2.2.1 10 b ||| bh_bit v)) b q).2.2.1 29 q)) 17 ((8 * b) + q) ((bh_raL (bh_r S 10 b (S.2.2.1 10 b ||| bh_bit v)) b q).2.2.2 30 q)) 11 b (((bh_raL (bh_r S 10 b (S.2.2.1 10 b ||| bh_bit v)) b q).2.2.1 11 b) ||| ((nI 1) <<< ((nI q) &&& 31))))) hx hb hK hI 11 0 rfl rfl (by omega) (by first | decide | omega) dX4_comesReadAnswer_113 rfl (fun H locs hI => ?_)
          refine lv_iinc (v := nI (q + 1)) (lv' := [(3, .int (nI (q + 1))), (0, .ref h), (1, .int (nI b)), (2, .int (nI v))]) hx hb dX4_comesReadAnswer_114 hl (k := 0) rfl (nI_1 _) (by decide) rfl (fun ls hl => ?_)
          refine lv_goto (tgt := 39) hx hb dX4_comesReadAnswer_117 (by decide) ?_
          exact ih_3 (q + 1) _ _ _ ⟨by omega, (by rw [show bh_raL (bh_r S 10 b (S.2.2.1 10 b ||| bh_bit v)) b (q + 1) = _ from if_pos q_1]; exact hI), lv_sub hl [0, 1, 2, 3] rfl⟩ (by show 8 - (q + 1) < 8 - q; omega)
        · have q_1 : ¬ (bh_raL (bh_r S 10 b (S.2.2.1 10 b ||| bh_bit v)) b q).2.2.1 14 (8 * b + q) < (bh_raL (bh_r S 10 b (S.2.2.1 10 b ||| bh_bit v)) b q).2.2.1 29 q := c_8
          refine lv_goto (tgt := 114) hx hb dX4_comesReadAnswer_65 (by decide) ?_
          refine lv_iinc (v := nI (q + 1)) (lv' := [(3, .int (nI (q + 1))), (0, .ref h), (1, .int (nI b)), (2, .int (nI v))]) hx hb dX4_comesReadAnswer_114 hl (k := 0) rfl (nI_1 _) (by decide) rfl (fun ls hl => ?_)
          refine lv_goto (tgt := 39) hx hb dX4_comesReadAnswer_117 (by decide) ?_
          exact ih_3 (q + 1) _ _ _ ⟨by omega, (by rw [show bh_raL (bh_r S 10 b (S.2.2.1 10 b ||| bh_bit v)) b (q + 1) = _ from if_neg q_1]; exact hI), lv_sub hl [0, 1, 2, 3] rfl⟩ (by show 8 - (q + 1) < 8 - q; omega)
    · exact bn_retv hx hb hr hlocks hK (S) hI (by unfold bh_cra; rw [if_neg (fun z => z.2 c_2)]) dX4_comesReadAnswer_24
set_option maxHeartbeats 4000000 in
set_option maxRecDepth 100000 in
theorem cm_comesVoteAnswer (l : Launch) (D : va_G) (c : bh_C) (h : Nat) (ad : Nat → Nat) (sz : Nat) (S : mS) (b v q : Nat) (h24 : b ≤ 24) (hv : v < 7) (hq : q < 8) (ha : S.1 28 ≤ 400) : Met l yX4_comesVoteAnswer wsX4_comesVoteAnswer ({ frames := 2, cells := 0, slots := 0, locals := 48 }) (va_Pc [.ref h, .int (nI b), .int (nI v), .int (nI q)] (bh_prm D c (bh_mw h ad c (S)) sz)) (va_Qv (fun u : mS => u = bh_cva S b v q) (fun u t => bh_post D c (bh_mw h ad c u) (va_A (bh_mw h ad c (S)) sz) t) (va_A (bh_mw h ad c (S)) sz)) 0 0 (va_A (bh_mw h ad c (S)) sz) := by
  refine Met.ofW (cc := cX4_comesVoteAnswer) (maxL := 4) (ret := none) (by decide) rfl ?_
  intro p e s m args below meth c0 s₁ B hml hv
  obtain ⟨rfl, hsz, hP, hK, hD0⟩ := hv
  have hx := B.exec
  have hb := B.bytes
  have hr := B.returns
  have hts := atoms_spec (ws := wsX4_comesVoteAnswer) B.pre
  have hown : s.vm.findClass RX4 = some m.cls := findClass_of_methodNamed B.named
  have hlocks := B.notSynchronized
  have hinX4 : ∀ w ∈ wsX40, w ∈ wsX4_comesVoteAnswer := fun _ h => List.mem_cons_of_mem _ (List.mem_append_right _ h)
  have lk_24 : (Cond.fieldLink RX4 24 "BallotHouseModel" "state" "[I").before _ s = true := hts _ (by decide +kernel)
  have lk_33 : (Cond.fieldLink RX4 33 "BallotHouseModel" "writes" "[I").before _ s = true := hts _ (by decide +kernel)
  have lk_48 : (Cond.fieldLink RX4 48 "BallotHouseModel" "known" "[I").before _ s = true := hts _ (by decide +kernel)
  have lk_54 : (Cond.fieldLink RX4 54 "BallotHouseModel" "answers" "[I").before _ s = true := hts _ (by decide +kernel)
  subst hsz
  have hI := bh_start hP hD0
  generalize hAe : va_A (bh_mw h ad c (S)) s.heap.size = A at hI ⊢
  have hA : ∀ q : Nat, s.heap.size ≤ q → A q := fun q h => by rw [← hAe]; exact Or.inr h
  clear hP hD0 hAe
  have hl := lv_entry ([.ref h, .int (nI b), .int (nI v), .int (nI q)]) (n := 4) (Nat.le_of_ble_eq_true rfl)
  rw [lg_entry_eq]
  generalize (lg_sl ([.ref h, .int (nI b), .int (nI v), .int (nI q)]) ++ List.replicate (4 - (lg_sl ([.ref h, .int (nI b), .int (nI v), .int (nI q)])).length) Slot.unset).toArray = ls at hl ⊢
  have hl : lv_has ls 4 [(0, .ref h), (1, .int (nI b)), (2, .int (nI v)), (3, .int (nI q))] := hl
  refine lv_aload_n hx hb dX4_comesVoteAnswer_0 rfl (lv_at hl 0 rfl) ?_
  refine bn_get (ci := 3) (v := .ref (ad 5)) (C := RX4) (T := TX4) (N := 31) hx hb hts hinX4 hown hK hI 0 rfl rfl 5 (by decide) lk_24 rfl (rfl) dX4_comesVoteAnswer_1 ?_
  refine lv_iload_n hx hb dX4_comesVoteAnswer_4 rfl (lv_at hl 1 rfl) ?_
  refine bn_iald (n := 25) (v := S.2.2.1 5 b) hx hb hK hI 5 0 rfl rfl (by omega) (by first | decide | omega) (rfl) dX4_comesVoteAnswer_5 ?_
  refine lv_iconst (v := nI 2) hx hb dX4_comesVoteAnswer_6 (by decide) ?_
  refine lv_icmp_ge (tgt := 11) hx hb dX4_comesVoteAnswer_7 (by decide) (fun c_1 => ?_) (fun c_1 => ?_)
  · have q_0 := c_1
    refine lv_aload_n hx hb dX4_comesVoteAnswer_11 rfl (lv_at hl 0 rfl) ?_
    refine bn_get (ci := 3) (v := .ref (ad 15)) (C := RX4) (T := TX4) (N := 31) hx hb hts hinX4 hown hK hI 0 rfl rfl 15 (by decide) lk_54 rfl (rfl) dX4_comesVoteAnswer_12 ?_
    refine lv_bipush (v := nI 8) hx hb dX4_comesVoteAnswer_15 (by decide) ?_
    refine lv_iload_n hx hb dX4_comesVoteAnswer_17 rfl (lv_at hl 1 rfl) ?_
    refine bn_imul hx hb dX4_comesVoteAnswer_18 ?_
    refine lv_iload_n hx hb dX4_comesVoteAnswer_19 rfl (lv_at hl 3 rfl) ?_
    refine bn_iadd hx hb dX4_comesVoteAnswer_20 ?_
    refine lv_dup2_11 hx hb dX4_comesVoteAnswer_21 rfl rfl ?_
    refine bn_iald (n := 200) (v := S.2.2.1 15 ((8 * b) + q)) hx hb hK hI 15 0 rfl rfl (by omega) (by first | decide | omega) (rfl) dX4_comesVoteAnswer_22 ?_
    refine lv_iconst (v := nI 1) hx hb dX4_comesVoteAnswer_23 (by decide) ?_
    refine lv_iload_n hx hb dX4_comesVoteAnswer_24 rfl (lv_at hl 2 rfl) ?_
    refine lv_ishl hx hb dX4_comesVoteAnswer_25 ?_
    refine lv_ior hx hb dX4_comesVoteAnswer_26 ?_
    refine bn_iast (n := 200) (ws' := bh_mw h ad c (bh_r S 15 ((8 * b) + q) ((S.2.2.1 15 ((8 * b) + q)) ||| ((nI 1) <<< ((nI v) &&& 31))))) hx hb hK hI 15 0 rfl rfl (by omega) (by first | decide | omega) dX4_comesVoteAnswer_27 rfl (fun H locs hI => ?_)
    refine lv_aload_n hx hb dX4_comesVoteAnswer_28 rfl (lv_at hl 0 rfl) ?_
    refine bn_get (ci := 3) (v := .ref (ad 15)) (C := RX4) (T := TX4) (N := 31) hx hb hts hinX4 hown hK hI 0 rfl rfl 15 (by decide) lk_54 rfl (rfl) dX4_comesVoteAnswer_29 ?_
    refine lv_bipush (v := nI 8) hx hb dX4_comesVoteAnswer_32 (by decide) ?_
    refine lv_iload_n hx hb dX4_comesVoteAnswer_34 rfl (lv_at hl 1 rfl) ?_
    refine bn_imul hx hb dX4_comesVoteAnswer_35 ?_
    refine lv_iload_n hx hb dX4_comesVoteAnswer_36 rfl (lv_at hl 3 rfl) ?_
    refine bn_iadd hx hb dX4_comesVoteAnswer_37 ?_
    refine bn_iald (n := 200) (v := S.2.2.1 15 (8 * b + q) ||| bh_bit v) hx hb hK hI 15 0 rfl rfl (by omega) (by first | decide | omega) (if_pos rfl) dX4_comesVoteAnswer_38 ?_
    refine vp_callSi (bn_roS (As := [.int (S.2.2.1 15 (8 * b + q) ||| bh_bit v)]) (rest := []) ⟨hx, hb, hml, hown, hts⟩ (cm_many l (S.2.2.1 15 (8 * b + q) ||| bh_bit v)) (va_cwS 1 hts gX4_comesVoteAnswer_X4_many rfl rfl rfl (by decide +kernel) ⟨Nat.le_of_ble_eq_true rfl, Nat.le_of_ble_eq_true rfl⟩) rfl hl.1 (Nat.le_of_ble_eq_true rfl) dX4_comesVoteAnswer_39 ⟨Nat.le_of_ble_eq_true rfl, Nat.le_of_ble_eq_true rfl⟩) (fun r_2 er_2 => ?_)
    subst er_2
    refine lv_aload_n hx hb dX4_comesVoteAnswer_42 rfl (lv_at hl 0 rfl) ?_
    refine bn_get (ci := 3) (v := .ref (ad 8)) (C := RX4) (T := TX4) (N := 31) hx hb hts hinX4 hown hK hI 0 rfl rfl 8 (by decide) lk_33 rfl (rfl) dX4_comesVoteAnswer_43 ?_
    refine lv_iload_n hx hb dX4_comesVoteAnswer_46 rfl (lv_at hl 1 rfl) ?_
    refine bn_iald (n := 25) (v := S.2.2.1 8 b) hx hb hK hI 8 0 rfl rfl (by omega) (by first | decide | omega) (rfl) dX4_comesVoteAnswer_47 ?_
    refine lv_icmp_lt (tgt := 63) hx hb dX4_comesVoteAnswer_48 (by decide) (fun c_3 => ?_) (fun c_3 => ?_)
    · have q_3 : bh_va2 S b v q = bh_va1 S b v q := if_pos c_3
      have hI : bh_I D (bh_mw h ad c (bh_va2 S b v q)) A s.heap H locs := by rw [q_3]; exact hI
      have h5 : (bh_va2 S b v q).2.2.1 5 = S.2.2.1 5 := by rw [q_3]; rfl
      have h1 : (bh_va2 S b v q).1 = S.1 := by rw [q_3]; rfl
      refine lv_aload_n hx hb dX4_comesVoteAnswer_63 rfl (lv_at hl 0 rfl) ?_
      refine bn_get (ci := 3) (v := .ref (ad 5)) (C := RX4) (T := TX4) (N := 31) hx hb hts hinX4 hown hK hI 0 rfl rfl 5 (by decide) lk_24 rfl (rfl) dX4_comesVoteAnswer_64 ?_
      refine lv_iload_n hx hb dX4_comesVoteAnswer_67 rfl (lv_at hl 1 rfl) ?_
      refine bn_iald (n := 25) (v := S.2.2.1 5 b) hx hb hK hI 5 0 rfl rfl (by omega) (by first | decide | omega) (by rw [h5]) dX4_comesVoteAnswer_68 ?_
      refine lv_iconst (v := nI 2) hx hb dX4_comesVoteAnswer_69 (by decide) ?_
      refine lv_icmp_ne (tgt := 86) hx hb dX4_comesVoteAnswer_70 (by decide) (fun c_4 => ?_) (fun c_4 => ?_)
      · exact bn_retv hx hb hr hlocks hK (bh_va2 S b v q) hI (by unfold bh_cva; rw [if_pos q_0, if_neg (fun z => c_4 z.1)]) dX4_comesVoteAnswer_86
      · have q_4 := c_4
        refine lv_aload_n hx hb dX4_comesVoteAnswer_73 rfl (lv_at hl 0 rfl) ?_
        refine lv_iload_n hx hb dX4_comesVoteAnswer_74 rfl (lv_at hl 1 rfl) ?_
        refine vp_callSi (bn_roV (As := [.int (nI b)]) (rest := []) ⟨hx, hb, hml, hown, hts⟩ (cm_isMoved l D c h ad (bh_va2 S b v q) b h24) (cwV 1 hts gX4_comesVoteAnswer_X4_isMoved rfl rfl rfl (by decide +kernel) ⟨Nat.le_of_ble_eq_true rfl, Nat.le_of_ble_eq_true rfl⟩) hK hI 0 3 rfl rfl rfl rfl hl.1 (Nat.le_of_ble_eq_true rfl) dX4_comesVoteAnswer_75 ⟨Nat.le_of_ble_eq_true rfl, Nat.le_of_ble_eq_true rfl⟩) (fun r_5 er_5 => ?_)
        subst er_5
        refine lv_if_eq (tgt := 86) hx hb dX4_comesVoteAnswer_78 (by decide) (fun c_6 => ?_) (fun c_6 => ?_)
        · have q_2 : ¬ bh_mvd (bh_va2 S b v q) b = true := by rw [bh_tf_eq c_6]; decide
          exact bn_retv hx hb hr hlocks hK (bh_va2 S b v q) hI (by unfold bh_cva; rw [if_pos q_0, if_neg (fun z => q_2 z.2)]) dX4_comesVoteAnswer_86
        · have q_2 := bh_tf_ne c_6
          refine lv_aload_n hx hb dX4_comesVoteAnswer_81 rfl (lv_at hl 0 rfl) ?_
          refine lv_iload_n hx hb dX4_comesVoteAnswer_82 rfl (lv_at hl 1 rfl) ?_
          refine bn_muv (bn_muV (As := [.int (nI b)]) (rest := []) ⟨hx, hb, hml, hown, hts⟩ (cm_beginAsking l D c h ad _ (bh_va2 S b v q) b h24 (by rw [h1]; exact ha)) (cwV 1 hts gX4_comesVoteAnswer_X4_beginAsking rfl rfl rfl (by decide +kernel) ⟨Nat.le_of_ble_eq_true rfl, Nat.le_of_ble_eq_true rfl⟩) hK hI 0 3 rfl rfl rfl rfl hl.1 (Nat.le_of_ble_eq_true rfl) dX4_comesVoteAnswer_83 ⟨Nat.le_of_ble_eq_true rfl, Nat.le_of_ble_eq_true rfl⟩) hI hA (fun u_7 H locs eu_7 hI => ?_)
          subst eu_7
          exact bn_retv hx hb hr hlocks hK (bh_bask (bh_va2 S b v q) b) hI (by unfold bh_cva; rw [if_pos q_0, if_pos ⟨q_4, q_2⟩]) dX4_comesVoteAnswer_86
    · have q_3 : bh_va2 S b v q = bh_r (bh_va1 S b v q) 13 b (S.2.2.1 13 b ||| bh_bit q) := if_neg c_3
      refine lv_aload_n hx hb dX4_comesVoteAnswer_51 rfl (lv_at hl 0 rfl) ?_
      refine bn_get (ci := 3) (v := .ref (ad 13)) (C := RX4) (T := TX4) (N := 31) hx hb hts hinX4 hown hK hI 0 rfl rfl 13 (by decide) lk_48 rfl (rfl) dX4_comesVoteAnswer_52 ?_
      refine lv_iload_n hx hb dX4_comesVoteAnswer_55 rfl (lv_at hl 1 rfl) ?_
      refine lv_dup2_11 hx hb dX4_comesVoteAnswer_56 rfl rfl ?_
      refine bn_iald (n := 25) (v := S.2.2.1 13 b) hx hb hK hI 13 0 rfl rfl (by omega) (by first | decide | omega) (rfl) dX4_comesVoteAnswer_57 ?_
      refine lv_iconst (v := nI 1) hx hb dX4_comesVoteAnswer_58 (by decide) ?_
      refine lv_iload_n hx hb dX4_comesVoteAnswer_59 rfl (lv_at hl 3 rfl) ?_
      refine lv_ishl hx hb dX4_comesVoteAnswer_60 ?_
      refine lv_ior hx hb dX4_comesVoteAnswer_61 ?_
      refine bn_iast (n := 25) (ws' := bh_mw h ad c (bh_r (bh_r S 15 ((8 * b) + q) ((S.2.2.1 15 ((8 * b) + q)) ||| ((nI 1) <<< ((nI v) &&& 31)))) 13 b ((S.2.2.1 13 b) ||| ((nI 1) <<< ((nI q) &&& 31))))) hx hb hK hI 13 0 rfl rfl (by omega) (by first | decide | omega) dX4_comesVoteAnswer_62 rfl (fun H locs hI => ?_)
      have hI : bh_I D (bh_mw h ad c (bh_va2 S b v q)) A s.heap H locs := by rw [q_3]; exact hI
      have h5 : (bh_va2 S b v q).2.2.1 5 = S.2.2.1 5 := by rw [q_3]; rfl
      have h1 : (bh_va2 S b v q).1 = S.1 := by rw [q_3]; rfl
      refine lv_aload_n hx hb dX4_comesVoteAnswer_63 rfl (lv_at hl 0 rfl) ?_
      refine bn_get (ci := 3) (v := .ref (ad 5)) (C := RX4) (T := TX4) (N := 31) hx hb hts hinX4 hown hK hI 0 rfl rfl 5 (by decide) lk_24 rfl (rfl) dX4_comesVoteAnswer_64 ?_
      refine lv_iload_n hx hb dX4_comesVoteAnswer_67 rfl (lv_at hl 1 rfl) ?_
      refine bn_iald (n := 25) (v := S.2.2.1 5 b) hx hb hK hI 5 0 rfl rfl (by omega) (by first | decide | omega) (by rw [h5]) dX4_comesVoteAnswer_68 ?_
      refine lv_iconst (v := nI 2) hx hb dX4_comesVoteAnswer_69 (by decide) ?_
      refine lv_icmp_ne (tgt := 86) hx hb dX4_comesVoteAnswer_70 (by decide) (fun c_8 => ?_) (fun c_8 => ?_)
      · exact bn_retv hx hb hr hlocks hK (bh_va2 S b v q) hI (by unfold bh_cva; rw [if_pos q_0, if_neg (fun z => c_8 z.1)]) dX4_comesVoteAnswer_86
      · have q_4 := c_8
        refine lv_aload_n hx hb dX4_comesVoteAnswer_73 rfl (lv_at hl 0 rfl) ?_
        refine lv_iload_n hx hb dX4_comesVoteAnswer_74 rfl (lv_at hl 1 rfl) ?_
        refine vp_callSi (bn_roV (As := [.int (nI b)]) (rest := []) ⟨hx, hb, hml, hown, hts⟩ (cm_isMoved l D c h ad (bh_va2 S b v q) b h24) (cwV 1 hts gX4_comesVoteAnswer_X4_isMoved rfl rfl rfl (by decide +kernel) ⟨Nat.le_of_ble_eq_true rfl, Nat.le_of_ble_eq_true rfl⟩) hK hI 0 3 rfl rfl rfl rfl hl.1 (Nat.le_of_ble_eq_true rfl) dX4_comesVoteAnswer_75 ⟨Nat.le_of_ble_eq_true rfl, Nat.le_of_ble_eq_true rfl⟩) (fun r_9 er_9 => ?_)
        subst er_9
        refine lv_if_eq (tgt := 86) hx hb dX4_comesVoteAnswer_78 (by decide) (fun c_10 => ?_) (fun c_10 => ?_)
        · have q_2 : ¬ bh_mvd (bh_va2 S b v q) b = true := by rw [bh_tf_eq c_10]; decide
          exact bn_retv hx hb hr hlocks hK (bh_va2 S b v q) hI (by unfold bh_cva; rw [if_pos q_0, if_neg (fun z => q_2 z.2)]) dX4_comesVoteAnswer_86
        · have q_2 := bh_tf_ne c_10
          refine lv_aload_n hx hb dX4_comesVoteAnswer_81 rfl (lv_at hl 0 rfl) ?_
          refine lv_iload_n hx hb dX4_comesVoteAnswer_82 rfl (lv_at hl 1 rfl) ?_
          refine bn_muv (bn_muV (As := [.int (nI b)]) (rest := []) ⟨hx, hb, hml, hown, hts⟩ (cm_beginAsking l D c h ad _ (bh_va2 S b v q) b h24 (by rw [h1]; exact ha)) (cwV 1 hts gX4_comesVoteAnswer_X4_beginAsking rfl rfl rfl (by decide +kernel) ⟨Nat.le_of_ble_eq_true rfl, Nat.le_of_ble_eq_true rfl⟩) hK hI 0 3 rfl rfl rfl rfl hl.1 (Nat.le_of_ble_eq_true rfl) dX4_comesVoteAnswer_83 ⟨Nat.le_of_ble_eq_true rfl, Nat.le_of_ble_eq_true rfl⟩) hI hA (fun u_11 H locs eu_11 hI => ?_)
          subst eu_11
          exact bn_retv hx hb hr hlocks hK (bh_bask (bh_va2 S b v q) b) hI (by unfold bh_cva; rw [if_pos q_0, if_pos ⟨q_4, q_2⟩]) dX4_comesVoteAnswer_86
  · exact bn_retv hx hb hr hlocks hK (S) hI (by unfold bh_cva; rw [if_neg c_1]) dX4_comesVoteAnswer_10
set_option maxHeartbeats 4000000 in
set_option maxRecDepth 100000 in
theorem cm_canBe (l : Launch) (D : va_G) (c : bh_C) (h : Nat) (ad : Nat → Nat) (S : mS) (k : Nat) (hk : k < 400) (hv : S.2.2.1 21 k = nI 2 ∨ S.2.2.1 21 k = nI 4 → ∃ v, v < 7 ∧ S.2.2.1 23 k = nI v) : Met l yX4_canBe wsX4_canBe ({ frames := 0, cells := 0, slots := 0, locals := 0 }) (va_Pc [.ref h, .int (nI k)] (bh_pre D c (bh_mw h ad c (S)))) (vp_Si (fun r => r = bh_tf (bh_cb S k))) 0 0 (fun _ => False) := by
  refine Met.ofW (cc := cX4_canBe) (maxL := 2) (ret := (some .boolean)) (by decide) rfl ?_
  intro p e s m args below meth c0 s₁ B hml hv
  obtain ⟨rfl, hP, hK, hD0⟩ := hv
  have hx := B.exec
  have hb := B.bytes
  have hr := B.returns
  have hts := atoms_spec (ws := wsX4_canBe) B.pre
  have hown : s.vm.findClass RX4 = some m.cls := findClass_of_methodNamed B.named
  have hlocks := B.notSynchronized
  have hinX4 : ∀ w ∈ wsX40, w ∈ wsX4_canBe := fun _ h => List.mem_cons_of_mem _ (List.mem_append_right _ h)
  have lk_20 : (Cond.fieldLink RX4 20 "BallotHouseModel" "silent" "[Z").before _ s = true := hts _ (by decide +kernel)
  have lk_63 : (Cond.fieldLink RX4 63 "BallotHouseModel" "airKind" "[I").before _ s = true := hts _ (by decide +kernel)
  have lk_69 : (Cond.fieldLink RX4 69 "BallotHouseModel" "airVoter" "[I").before _ s = true := hts _ (by decide +kernel)
  have hI : bh_I D (bh_mw h ad c (S)) (fun _ => True) s.heap s.heap [] := ⟨hP, hD0, va_S.rf⟩
  have hl := lv_entry ([.ref h, .int (nI k)]) (n := 2) (Nat.le_of_ble_eq_true rfl)
  rw [lg_entry_eq]
  generalize (lg_sl ([.ref h, .int (nI k)]) ++ List.replicate (2 - (lg_sl ([.ref h, .int (nI k)])).length) Slot.unset).toArray = ls at hl ⊢
  have hl : lv_has ls 2 [(0, .ref h), (1, .int (nI k))] := hl
  refine lv_aload_n hx hb dX4_canBe_0 rfl (lv_at hl 0 rfl) ?_
  refine bn_get (ci := 3) (v := .ref (ad 21)) (C := RX4) (T := TX4) (N := 31) hx hb hts hinX4 hown hK hI 0 rfl rfl 21 (by decide) lk_63 rfl (rfl) dX4_canBe_1 ?_
  refine lv_iload_n hx hb dX4_canBe_4 rfl (lv_at hl 1 rfl) ?_
  refine bn_iald (n := 400) (v := S.2.2.1 21 k) hx hb hK hI 18 0 rfl rfl (by omega) (by first | decide | omega) (rfl) dX4_canBe_5 ?_
  refine lv_iconst (v := nI 2) hx hb dX4_canBe_6 (by decide) ?_
  refine lv_icmp_eq (tgt := 20) hx hb dX4_canBe_7 (by decide) (fun c_1 => ?_) (fun c_1 => ?_)
  · obtain ⟨v, hv7, ev⟩ := hv (Or.inl c_1)
    have q_1 := Or.inl (b := S.2.2.1 21 k = nI 4) c_1
    refine lv_aload_n hx hb dX4_canBe_20 rfl (lv_at hl 0 rfl) ?_
    refine bn_get (ci := 3) (v := .ref (ad 4)) (C := RX4) (T := TX4) (N := 31) hx hb hts hinX4 hown hK hI 0 rfl rfl 4 (by decide) lk_20 rfl (rfl) dX4_canBe_21 ?_
    refine lv_aload_n hx hb dX4_canBe_24 rfl (lv_at hl 0 rfl) ?_
    refine bn_get (ci := 3) (v := .ref (ad 23)) (C := RX4) (T := TX4) (N := 31) hx hb hts hinX4 hown hK hI 0 rfl rfl 23 (by decide) lk_69 rfl (rfl) dX4_canBe_25 ?_
    refine lv_iload_n hx hb dX4_canBe_28 rfl (lv_at hl 1 rfl) ?_
    refine bn_iald (n := 400) (v := nI v) hx hb hK hI 20 0 rfl rfl (by omega) (by first | decide | omega) (ev) dX4_canBe_29 ?_
    refine bn_zald (n := 7) (v := S.2.2.1 4 v) hx hb hK hI 4 2 rfl rfl (by omega) (by first | decide | omega) (rfl) dX4_canBe_30 ?_
    refine lv_if_ne (tgt := 38) hx hb dX4_canBe_31 (by decide) (fun c_2 => ?_) (fun c_2 => ?_)
    · refine lv_iconst (v := nI 0) hx hb dX4_canBe_38 (by decide) ?_
      exact bn_rotz hx hb hr hlocks (by unfold bh_cb; rw [ev, nI_clamp (by omega), decide_eq_true q_1, decide_eq_false c_2]; rfl) (by decide) dX4_canBe_39
    · refine lv_iconst (v := nI 1) hx hb dX4_canBe_34 (by decide) ?_
      refine lv_goto (tgt := 39) hx hb dX4_canBe_35 (by decide) ?_
      exact bn_rotz hx hb hr hlocks (by unfold bh_cb; rw [ev, nI_clamp (by omega), decide_eq_true q_1, decide_eq_true c_2]; rfl) (by decide) dX4_canBe_39
  · refine lv_aload_n hx hb dX4_canBe_10 rfl (lv_at hl 0 rfl) ?_
    refine bn_get (ci := 3) (v := .ref (ad 21)) (C := RX4) (T := TX4) (N := 31) hx hb hts hinX4 hown hK hI 0 rfl rfl 21 (by decide) lk_63 rfl (rfl) dX4_canBe_11 ?_
    refine lv_iload_n hx hb dX4_canBe_14 rfl (lv_at hl 1 rfl) ?_
    refine bn_iald (n := 400) (v := S.2.2.1 21 k) hx hb hK hI 18 0 rfl rfl (by omega) (by first | decide | omega) (rfl) dX4_canBe_15 ?_
    refine lv_iconst (v := nI 4) hx hb dX4_canBe_16 (by decide) ?_
    refine lv_icmp_ne (tgt := 34) hx hb dX4_canBe_17 (by decide) (fun c_3 => ?_) (fun c_3 => ?_)
    · refine lv_iconst (v := nI 1) hx hb dX4_canBe_34 (by decide) ?_
      refine lv_goto (tgt := 39) hx hb dX4_canBe_35 (by decide) ?_
      exact bn_rotz hx hb hr hlocks (by unfold bh_cb; rw [decide_eq_false (fun z => z.elim c_1 c_3)]; rfl) (by decide) dX4_canBe_39
    · obtain ⟨v, hv7, ev⟩ := hv (Or.inr c_3)
      have q_1 := Or.inr (a := S.2.2.1 21 k = nI 2) c_3
      refine lv_aload_n hx hb dX4_canBe_20 rfl (lv_at hl 0 rfl) ?_
      refine bn_get (ci := 3) (v := .ref (ad 4)) (C := RX4) (T := TX4) (N := 31) hx hb hts hinX4 hown hK hI 0 rfl rfl 4 (by decide) lk_20 rfl (rfl) dX4_canBe_21 ?_
      refine lv_aload_n hx hb dX4_canBe_24 rfl (lv_at hl 0 rfl) ?_
      refine bn_get (ci := 3) (v := .ref (ad 23)) (C := RX4) (T := TX4) (N := 31) hx hb hts hinX4 hown hK hI 0 rfl rfl 23 (by decide) lk_69 rfl (rfl) dX4_canBe_25 ?_
      refine lv_iload_n hx hb dX4_canBe_28 rfl (lv_at hl 1 rfl) ?_
      refine bn_iald (n := 400) (v := nI v) hx hb hK hI 20 0 rfl rfl (by omega) (by first | decide | omega) (ev) dX4_canBe_29 ?_
      refine bn_zald (n := 7) (v := S.2.2.1 4 v) hx hb hK hI 4 2 rfl rfl (by omega) (by first | decide | omega) (rfl) dX4_canBe_30 ?_
      refine lv_if_ne (tgt := 38) hx hb dX4_canBe_31 (by decide) (fun c_4 => ?_) (fun c_4 => ?_)
      · refine lv_iconst (v := nI 0) hx hb dX4_canBe_38 (by decide) ?_
        exact bn_rotz hx hb hr hlocks (by unfold bh_cb; rw [ev, nI_clamp (by omega), decide_eq_true q_1, decide_eq_false c_4]; rfl) (by decide) dX4_canBe_39
      · refine lv_iconst (v := nI 1) hx hb dX4_canBe_34 (by decide) ?_
        refine lv_goto (tgt := 39) hx hb dX4_canBe_35 (by decide) ?_
        exact bn_rotz hx hb hr hlocks (by unfold bh_cb; rw [ev, nI_clamp (by omega), decide_eq_true q_1, decide_eq_true c_4]; rfl) (by decide) dX4_canBe_39
set_option maxHeartbeats 4000000 in
set_option maxRecDepth 100000 in
theorem cm_deliver (l : Launch) (D : va_G) (c : bh_C) (h : Nat) (ad : Nat → Nat) (sz : Nat) (S : mS) (k w b v q g : Nat) (ha : S.1 28 ≤ 400) (hn : S.1 0 ≤ 7) (hk : k < S.1 28) (hL : bh_let S k w b v q g) (hcb : bh_cb S k = true) : Met l yX4_deliver wsX4_deliver ({ frames := 4, cells := 0, slots := 0, locals := 96 }) (va_Pc [.ref h, .int (nI k)] (bh_prm D c (bh_mw h ad c (S)) sz)) (va_Qi (fun (r : Int32) (u : mS) => r = nI 1 ∧ u = bh_do (bh_off S k) w b v q g (S.2.2.2 26 k)) (fun u t => bh_post D c (bh_mw h ad c u) (va_A (bh_mw h ad c (S)) sz) t) (va_A (bh_mw h ad c (S)) sz)) 0 0 (va_A (bh_mw h ad c (S)) sz) := by
  refine Met.ofW (cc := cX4_deliver) (maxL := 9) (ret := (some .boolean)) (by decide) rfl ?_
  intro p e s m args below meth c0 s₁ B hml hv
  obtain ⟨rfl, hsz, hP, hK, hD0⟩ := hv
  have hx := B.exec
  have hb := B.bytes
  have hr := B.returns
  have hts := atoms_spec (ws := wsX4_deliver) B.pre
  have hown : s.vm.findClass RX4 = some m.cls := findClass_of_methodNamed B.named
  have hlocks := B.notSynchronized
  have hinX4 : ∀ w ∈ wsX40, w ∈ wsX4_deliver := fun _ h => List.mem_cons_of_mem _ (List.mem_append_right _ h)
  have lk_24 : (Cond.fieldLink RX4 24 "BallotHouseModel" "state" "[I").before _ s = true := hts _ (by decide +kernel)
  have lk_36 : (Cond.fieldLink RX4 36 "BallotHouseModel" "behind" "[I").before _ s = true := hts _ (by decide +kernel)
  have lk_63 : (Cond.fieldLink RX4 63 "BallotHouseModel" "airKind" "[I").before _ s = true := hts _ (by decide +kernel)
  have lk_66 : (Cond.fieldLink RX4 66 "BallotHouseModel" "airBallot" "[I").before _ s = true := hts _ (by decide +kernel)
  have lk_69 : (Cond.fieldLink RX4 69 "BallotHouseModel" "airVoter" "[I").before _ s = true := hts _ (by decide +kernel)
  have lk_72 : (Cond.fieldLink RX4 72 "BallotHouseModel" "airPlace" "[I").before _ s = true := hts _ (by decide +kernel)
  have lk_75 : (Cond.fieldLink RX4 75 "BallotHouseModel" "airVote" "[I").before _ s = true := hts _ (by decide +kernel)
  have lk_78 : (Cond.fieldLink RX4 78 "BallotHouseModel" "airValue" "[J").before _ s = true := hts _ (by decide +kernel)
  have lk_81 : (Cond.fieldLink RX4 81 "BallotHouseModel" "airValues" "[J").before _ s = true := hts _ (by decide +kernel)
  have lk_84 : (Cond.fieldLink RX4 84 "BallotHouseModel" "gotVote" "[I").before _ s = true := hts _ (by decide +kernel)
  have lk_87 : (Cond.fieldLink RX4 87 "BallotHouseModel" "gotValue" "[J").before _ s = true := hts _ (by decide +kernel)
  have lk_97 : (Cond.fieldLink RX4 97 "BallotHouseModel" "air" "I").before _ s = true := hts _ (by decide +kernel)
  have lk_111 : (Cond.fieldLink RX4 111 "BallotHouseModel" "complete" "I").before _ s = true := hts _ (by decide +kernel)
  subst hsz
  have hI := bh_start hP hD0
  generalize hAe : va_A (bh_mw h ad c (S)) s.heap.size = A at hI ⊢
  have hA : ∀ q : Nat, s.heap.size ≤ q → A q := fun q h => by rw [← hAe]; exact Or.inr h
  clear hP hD0 hAe
  have hl := lv_entry ([.ref h, .int (nI k)]) (n := 9) (Nat.le_of_ble_eq_true rfl)
  rw [lg_entry_eq]
  generalize (lg_sl ([.ref h, .int (nI k)]) ++ List.replicate (9 - (lg_sl ([.ref h, .int (nI k)])).length) Slot.unset).toArray = ls at hl ⊢
  have hl : lv_has ls 9 [(0, .ref h), (1, .int (nI k))] := hl
  obtain ⟨hL21, hL22, hL9, hLw, h24, hg24, hL23, hL24⟩ := hL
  have hcv : S.2.2.1 21 k = nI 2 ∨ S.2.2.1 21 k = nI 4 → ∃ v, v < 7 ∧ S.2.2.1 23 k = nI v := fun z => ⟨v, (hL23 (z.elim (fun z => by have := (nI_eq (by omega) (by omega)).mp (hL21.symm.trans z); omega) (fun z => by have := (nI_eq (by omega) (by omega)).mp (hL21.symm.trans z); omega))).2, (hL23 (z.elim (fun z => by have := (nI_eq (by omega) (by omega)).mp (hL21.symm.trans z); omega) (fun z => by have := (nI_eq (by omega) (by omega)).mp (hL21.symm.trans z); omega))).1⟩
  have hoa : (bh_off S k).1 28 ≤ 400 := by rw [bh_off_28]; omega
  have hon : (bh_off S k).1 0 ≤ 7 := by rw [bh_off_0]; exact hn
  have ho9 : (bh_off S k).2.2.1 9 b = nI g := by rw [bh_off_r S k (by omega)]; exact hL9
  refine lv_iload_n hx hb dX4_deliver_0 rfl (lv_at hl 1 rfl) ?_
  refine lv_if_lt (tgt := 20) hx hb dX4_deliver_1 (by decide) (fun c_1 => ?_) (fun c_1 => ?_)
  · exact absurd c_1 (nI_pos (by omega))
  · refine lv_iload_n hx hb dX4_deliver_4 rfl (lv_at hl 1 rfl) ?_
    refine lv_aload_n hx hb dX4_deliver_5 rfl (lv_at hl 0 rfl) ?_
    refine bn_get (ci := 3) (v := .int (nI (S.1 28))) (C := RX4) (T := TX4) (N := 31) hx hb hts hinX4 hown hK hI 0 rfl rfl 28 (by decide) lk_97 rfl (rfl) dX4_deliver_6 ?_
    refine bn_cmp_ge (tgt := 20) hx hb (by omega) (by omega) dX4_deliver_9 (by decide) (fun c_2 => ?_) (fun c_2 => ?_)
    · exact absurd c_2 (by omega)
    · refine lv_aload_n hx hb dX4_deliver_12 rfl (lv_at hl 0 rfl) ?_
      refine lv_iload_n hx hb dX4_deliver_13 rfl (lv_at hl 1 rfl) ?_
      refine vp_callSi (bn_roV (As := [.int (nI k)]) (rest := []) ⟨hx, hb, hml, hown, hts⟩ (cm_canBe l D c h ad S k (by omega) hcv) (cwV 1 hts gX4_deliver_X4_canBe rfl rfl rfl (by decide +kernel) ⟨Nat.le_of_ble_eq_true rfl, Nat.le_of_ble_eq_true rfl⟩) hK hI 0 3 rfl rfl rfl rfl hl.1 (Nat.le_of_ble_eq_true rfl) dX4_deliver_14 ⟨Nat.le_of_ble_eq_true rfl, Nat.le_of_ble_eq_true rfl⟩) (fun r_3 er_3 => ?_)
      rw [hcb] at er_3
      subst er_3
      refine lv_if_ne (tgt := 22) hx hb dX4_deliver_17 (by decide) (fun c_4 => ?_) (fun c_4 => ?_)
      · refine lv_aload_n hx hb dX4_deliver_22 rfl (lv_at hl 0 rfl) ?_
        refine bn_get (ci := 3) (v := .ref (ad 21)) (C := RX4) (T := TX4) (N := 31) hx hb hts hinX4 hown hK hI 0 rfl rfl 21 (by decide) lk_63 rfl (rfl) dX4_deliver_23 ?_
        refine lv_iload_n hx hb dX4_deliver_26 rfl (lv_at hl 1 rfl) ?_
        refine bn_iald (n := 400) (v := nI w) hx hb hK hI 18 0 rfl rfl (by omega) (by first | decide | omega) (hL21) dX4_deliver_27 ?_
        refine lv_istore_n (lv' := [(2, .int (nI w)), (0, .ref h), (1, .int (nI k))]) hx hb dX4_deliver_28 rfl hl (by decide) rfl (fun ls hl => ?_)
        refine lv_aload_n hx hb dX4_deliver_29 rfl (lv_at hl 1 rfl) ?_
        refine bn_get (ci := 3) (v := .ref (ad 22)) (C := RX4) (T := TX4) (N := 31) hx hb hts hinX4 hown hK hI 0 rfl rfl 22 (by decide) lk_66 rfl (rfl) dX4_deliver_30 ?_
        refine lv_iload_n hx hb dX4_deliver_33 rfl (lv_at hl 2 rfl) ?_
        refine bn_iald (n := 400) (v := nI b) hx hb hK hI 19 0 rfl rfl (by omega) (by first | decide | omega) (hL22) dX4_deliver_34 ?_
        refine lv_istore_n (lv' := [(3, .int (nI b)), (2, .int (nI w)), (0, .ref h), (1, .int (nI k))]) hx hb dX4_deliver_35 rfl hl (by decide) rfl (fun ls hl => ?_)
        refine lv_aload_n hx hb dX4_deliver_36 rfl (lv_at hl 2 rfl) ?_
        refine bn_get (ci := 3) (v := .ref (ad 23)) (C := RX4) (T := TX4) (N := 31) hx hb hts hinX4 hown hK hI 0 rfl rfl 23 (by decide) lk_69 rfl (rfl) dX4_deliver_37 ?_
        refine lv_iload_n hx hb dX4_deliver_40 rfl (lv_at hl 3 rfl) ?_
        refine bn_iald (n := 400) (v := S.2.2.1 23 k) hx hb hK hI 20 0 rfl rfl (by omega) (by first | decide | omega) (rfl) dX4_deliver_41 ?_
        refine lv_istore (lv' := [(4, .int (S.2.2.1 23 k)), (3, .int (nI b)), (2, .int (nI w)), (0, .ref h), (1, .int (nI k))]) hx hb dX4_deliver_42 hl (by decide) rfl (fun ls hl => ?_)
        refine lv_aload_n hx hb dX4_deliver_44 rfl (lv_at hl 3 rfl) ?_
        refine bn_get (ci := 3) (v := .ref (ad 24)) (C := RX4) (T := TX4) (N := 31) hx hb hts hinX4 hown hK hI 0 rfl rfl 24 (by decide) lk_72 rfl (rfl) dX4_deliver_45 ?_
        refine lv_iload_n hx hb dX4_deliver_48 rfl (lv_at hl 4 rfl) ?_
        refine bn_iald (n := 400) (v := S.2.2.1 24 k) hx hb hK hI 21 0 rfl rfl (by omega) (by first | decide | omega) (rfl) dX4_deliver_49 ?_
        refine lv_istore (lv' := [(5, .int (S.2.2.1 24 k)), (4, .int (S.2.2.1 23 k)), (3, .int (nI b)), (2, .int (nI w)), (0, .ref h), (1, .int (nI k))]) hx hb dX4_deliver_50 hl (by decide) rfl (fun ls hl => ?_)
        refine lv_aload_n hx hb dX4_deliver_52 rfl (lv_at hl 4 rfl) ?_
        refine bn_get (ci := 3) (v := .ref (ad 26)) (C := RX4) (T := TX4) (N := 31) hx hb hts hinX4 hown hK hI 0 rfl rfl 26 (by decide) lk_78 rfl (rfl) dX4_deliver_53 ?_
        refine lv_iload_n hx hb dX4_deliver_56 rfl (lv_at hl 5 rfl) ?_
        refine bn_lald (n := 400) (v := S.2.2.2 26 k) hx hb hK hI 23 1 rfl rfl (by omega) (by first | decide | omega) (rfl) dX4_deliver_57 ?_
        refine lv_lstore (lv' := [(6, .long (S.2.2.2 26 k)), (5, .int (S.2.2.1 24 k)), (4, .int (S.2.2.1 23 k)), (3, .int (nI b)), (2, .int (nI w)), (0, .ref h), (1, .int (nI k))]) hx hb dX4_deliver_58 hl (by decide) rfl (fun ls hl => ?_)
        refine lv_iconst (v := nI 0) hx hb dX4_deliver_60 (by decide) ?_
        refine lv_istore (lv' := [(8, .int (nI 0)), (6, .long (S.2.2.2 26 k)), (5, .int (S.2.2.1 24 k)), (4, .int (S.2.2.1 23 k)), (3, .int (nI b)), (2, .int (nI w)), (0, .ref h), (1, .int (nI k))]) hx hb dX4_deliver_61 hl (by decide) rfl (fun ls hl => ?_)
        refine bh_loop (σ := Nat) (fun (j : Nat) H locs ls => j ≤ 8 ∧ bh_I D (bh_mw h ad c (bh_got S k j)) A s.heap H locs ∧ lv_has ls 9 [(8, .int (nI j)), (6, .long (S.2.2.2 26 k)), (5, .int (S.2.2.1 24 k)), (4, .int (S.2.2.1 23 k)), (3, .int (nI b)), (2, .int (nI w)), (0, .ref h), (1, .int (nI k))]) (fun (j : Nat) => 8 - j) (fun j H locs ls hx_5 ih_5 => ?_) 0 _ _ _ ⟨Nat.zero_le 8, hI, lv_sub hl [0, 1, 2, 3, 4, 5, 6, 7] rfl⟩
        clear hl hI
        obtain ⟨hj, hI, hl⟩ := hx_5
        refine lv_iload hx hb dX4_deliver_63 (lv_at hl 0 rfl) ?_
        refine lv_bipush (v := nI 8) hx hb dX4_deliver_65 (by decide) ?_
        refine bn_cmp_ge (tgt := 114) hx hb (by omega) (by omega) dX4_deliver_67 (by decide) (fun c_6 => ?_) (fun c_6 => ?_)
        · obtain rfl : j = 8 := by omega
          refine lv_aload_n hx hb dX4_deliver_114 rfl (lv_at hl 6 rfl) ?_
          refine lv_iload_n hx hb dX4_deliver_115 rfl (lv_at hl 7 rfl) ?_
          refine bn_muv (bn_muV (As := [.int (nI k)]) (rest := []) ⟨hx, hb, hml, hown, hts⟩ (cm_take l D c h ad _ (bh_got S k 8) k (by rw [bh_got_n]; exact ha) (by rw [bh_got_n]; exact hk)) (cwV 1 hts gX4_deliver_X4_take rfl rfl rfl (by decide +kernel) ⟨Nat.le_of_ble_eq_true rfl, Nat.le_of_ble_eq_true rfl⟩) hK hI 0 3 rfl rfl rfl rfl hl.1 (Nat.le_of_ble_eq_true rfl) dX4_deliver_116 ⟨Nat.le_of_ble_eq_true rfl, Nat.le_of_ble_eq_true rfl⟩) hI hA (fun u_7 H locs eu_7 hI => ?_)
          subst eu_7
          refine lv_iload_n hx hb dX4_deliver_119 rfl (lv_at hl 5 rfl) ?_
          rcases (show w = 1 ∨ w = 2 ∨ w = 3 ∨ w = 4 ∨ w = 5 ∨ w = 6 ∨ w = 7 by omega) with hw | hw | hw | hw | hw | hw | hw
          · subst hw
            refine lv_tableIn (tgt := 160) hx hb dX4_deliver_120 (by decide) (by decide) rfl (by decide) ?_
            refine lv_aload_n hx hb dX4_deliver_160 rfl (lv_at hl 6 rfl) ?_
            refine bn_get (ci := 3) (v := .ref (ad 5)) (C := RX4) (T := TX4) (N := 31) hx hb hts hinX4 hown hK hI 0 rfl rfl 5 (by decide) lk_24 rfl (rfl) dX4_deliver_161 ?_
            refine lv_iload_n hx hb dX4_deliver_164 rfl (lv_at hl 4 rfl) ?_
            refine bn_iald (n := 25) (v := (bh_off S k).2.2.1 5 b) hx hb hK hI 5 0 rfl rfl (by omega) (by first | decide | omega) (rfl) dX4_deliver_165 ?_
            refine lv_if_ne (tgt := 279) hx hb dX4_deliver_166 (by decide) (fun c_8 => ?_) (fun c_8 => ?_)
            · refine lv_iconst (v := nI 1) hx hb dX4_deliver_279 (by decide) ?_
              exact bn_retz hx hb hr hlocks hK (bh_off S k) hI (⟨rfl, by show _ = bh_do (bh_off S k) 1 b v q g (S.2.2.2 26 k); unfold bh_do; rw [if_pos rfl]; rw [if_neg c_8]⟩) (by decide) dX4_deliver_280
            · refine lv_aload_n hx hb dX4_deliver_169 rfl (lv_at hl 6 rfl) ?_
              refine lv_iload_n hx hb dX4_deliver_170 rfl (lv_at hl 4 rfl) ?_
              refine bn_muv (bn_muV (As := [.int (nI b)]) (rest := []) ⟨hx, hb, hml, hown, hts⟩ (cm_beginReading l D c h ad _ (bh_off S k) b h24 g ho9 hg24 hoa hon) (cwV 1 hts gX4_deliver_X4_beginReading rfl rfl rfl (by decide +kernel) ⟨Nat.le_of_ble_eq_true rfl, Nat.le_of_ble_eq_true rfl⟩) hK hI 0 3 rfl rfl rfl rfl hl.1 (Nat.le_of_ble_eq_true rfl) dX4_deliver_171 ⟨Nat.le_of_ble_eq_true rfl, Nat.le_of_ble_eq_true rfl⟩) hI hA (fun u_9 H locs eu_9 hI => ?_)
              subst eu_9
              refine lv_goto (tgt := 279) hx hb dX4_deliver_174 (by decide) ?_
              refine lv_iconst (v := nI 1) hx hb dX4_deliver_279 (by decide) ?_
              exact bn_retz hx hb hr hlocks hK (bh_bre (bh_off S k) b g) hI (⟨rfl, by show _ = bh_do (bh_off S k) 1 b v q g (S.2.2.2 26 k); unfold bh_do; rw [if_pos rfl]; rw [if_pos c_8]⟩) (by decide) dX4_deliver_280
          · subst hw
            refine lv_tableIn (tgt := 177) hx hb dX4_deliver_120 (by decide) (by decide) rfl (by decide) ?_
            obtain ⟨ev, hv7⟩ := hL23 (by omega)
            rw [ev] at hl
            refine lv_aload_n hx hb dX4_deliver_177 rfl (lv_at hl 6 rfl) ?_
            refine lv_iload_n hx hb dX4_deliver_178 rfl (lv_at hl 4 rfl) ?_
            refine lv_iload hx hb dX4_deliver_179 (lv_at hl 3 rfl) ?_
            refine bn_muv (bn_muV (As := [.int (nI b), .int (nI v)]) (rest := []) ⟨hx, hb, hml, hown, hts⟩ (cm_comesRead l D c h ad _ (bh_off S k) b v h24 hv7 hoa) (cwV 2 hts gX4_deliver_X4_comesRead rfl rfl rfl (by decide +kernel) ⟨Nat.le_of_ble_eq_true rfl, Nat.le_of_ble_eq_true rfl⟩) hK hI 0 3 rfl rfl rfl rfl hl.1 (Nat.le_of_ble_eq_true rfl) dX4_deliver_181 ⟨Nat.le_of_ble_eq_true rfl, Nat.le_of_ble_eq_true rfl⟩) hI hA (fun u_10 H locs eu_10 hI => ?_)
            subst eu_10
            refine lv_goto (tgt := 279) hx hb dX4_deliver_184 (by decide) ?_
            refine lv_iconst (v := nI 1) hx hb dX4_deliver_279 (by decide) ?_
            exact bn_retz hx hb hr hlocks hK (bh_cre (bh_off S k) b v) hI (⟨rfl, by show _ = bh_do (bh_off S k) 2 b v q g (S.2.2.2 26 k); unfold bh_do; rw [if_neg (by omega), if_pos rfl]⟩) (by decide) dX4_deliver_280
          · subst hw
            refine lv_tableIn (tgt := 187) hx hb dX4_deliver_120 (by decide) (by decide) rfl (by decide) ?_
            obtain ⟨ev, hv7⟩ := hL23 (by omega)
            rw [ev] at hl
            refine lv_aload_n hx hb dX4_deliver_187 rfl (lv_at hl 6 rfl) ?_
            refine lv_iload_n hx hb dX4_deliver_188 rfl (lv_at hl 4 rfl) ?_
            refine lv_iload hx hb dX4_deliver_189 (lv_at hl 3 rfl) ?_
            refine bn_muv (bn_muV (As := [.int (nI b), .int (nI v)]) (rest := []) ⟨hx, hb, hml, hown, hts⟩ (cm_comesReadAnswer l D c h ad _ (bh_off S k) b v h24 hv7 g ho9 hg24 hoa hon) (cwV 2 hts gX4_deliver_X4_comesReadAnswer rfl rfl rfl (by decide +kernel) ⟨Nat.le_of_ble_eq_true rfl, Nat.le_of_ble_eq_true rfl⟩) hK hI 0 3 rfl rfl rfl rfl hl.1 (Nat.le_of_ble_eq_true rfl) dX4_deliver_191 ⟨Nat.le_of_ble_eq_true rfl, Nat.le_of_ble_eq_true rfl⟩) hI hA (fun u_11 H locs eu_11 hI => ?_)
            subst eu_11
            refine lv_goto (tgt := 279) hx hb dX4_deliver_194 (by decide) ?_
            refine lv_iconst (v := nI 1) hx hb dX4_deliver_279 (by decide) ?_
            exact bn_retz hx hb hr hlocks hK (bh_cra (bh_off S k) b v g) hI (⟨rfl, by show _ = bh_do (bh_off S k) 3 b v q g (S.2.2.2 26 k); unfold bh_do; rw [if_neg (by omega), if_neg (by omega), if_pos rfl]⟩) (by decide) dX4_deliver_280
          · subst hw
            refine lv_tableIn (tgt := 197) hx hb dX4_deliver_120 (by decide) (by decide) rfl (by decide) ?_
            obtain ⟨ev, hv7⟩ := hL23 (by omega)
            rw [ev] at hl
            obtain ⟨eq, hq8⟩ := hL24 (by omega)
            rw [eq] at hl
            refine lv_aload_n hx hb dX4_deliver_197 rfl (lv_at hl 6 rfl) ?_
            refine lv_iload_n hx hb dX4_deliver_198 rfl (lv_at hl 4 rfl) ?_
            refine lv_iload hx hb dX4_deliver_199 (lv_at hl 3 rfl) ?_
            refine lv_iload hx hb dX4_deliver_201 (lv_at hl 2 rfl) ?_
            refine lv_lload hx hb dX4_deliver_203 (lv_at hl 1 rfl) ?_
            refine bn_muv (bn_muV (As := [.int (nI b), .int (nI v), .int (nI q), .long (S.2.2.2 26 k)]) (rest := []) ⟨hx, hb, hml, hown, hts⟩ (cm_comesVote l D c h ad _ (bh_off S k) b v q (S.2.2.2 26 k) h24 hv7 hq8 hoa) (cwV 4 hts gX4_deliver_X4_comesVote rfl rfl rfl (by decide +kernel) ⟨Nat.le_of_ble_eq_true rfl, Nat.le_of_ble_eq_true rfl⟩) hK hI 0 3 rfl rfl rfl rfl hl.1 (Nat.le_of_ble_eq_true rfl) dX4_deliver_205 ⟨Nat.le_of_ble_eq_true rfl, Nat.le_of_ble_eq_true rfl⟩) hI hA (fun u_12 H locs eu_12 hI => ?_)
            subst eu_12
            refine lv_goto (tgt := 279) hx hb dX4_deliver_208 (by decide) ?_
            refine lv_iconst (v := nI 1) hx hb dX4_deliver_279 (by decide) ?_
            exact bn_retz hx hb hr hlocks hK (bh_cvo (bh_off S k) b v q (S.2.2.2 26 k)) hI (⟨rfl, by show _ = bh_do (bh_off S k) 4 b v q g (S.2.2.2 26 k); unfold bh_do; rw [if_neg (by omega), if_neg (by omega), if_neg (by omega), if_pos rfl]⟩) (by decide) dX4_deliver_280
          · subst hw
            refine lv_tableIn (tgt := 211) hx hb dX4_deliver_120 (by decide) (by decide) rfl (by decide) ?_
            obtain ⟨ev, hv7⟩ := hL23 (by omega)
            rw [ev] at hl
            obtain ⟨eq, hq8⟩ := hL24 (by omega)
            rw [eq] at hl
            refine lv_aload_n hx hb dX4_deliver_211 rfl (lv_at hl 6 rfl) ?_
            refine lv_iload_n hx hb dX4_deliver_212 rfl (lv_at hl 4 rfl) ?_
            refine lv_iload hx hb dX4_deliver_213 (lv_at hl 3 rfl) ?_
            refine lv_iload hx hb dX4_deliver_215 (lv_at hl 2 rfl) ?_
            refine bn_muv (bn_muV (As := [.int (nI b), .int (nI v), .int (nI q)]) (rest := []) ⟨hx, hb, hml, hown, hts⟩ (cm_comesVoteAnswer l D c h ad _ (bh_off S k) b v q h24 hv7 hq8 hoa) (cwV 3 hts gX4_deliver_X4_comesVoteAnswer rfl rfl rfl (by decide +kernel) ⟨Nat.le_of_ble_eq_true rfl, Nat.le_of_ble_eq_true rfl⟩) hK hI 0 3 rfl rfl rfl rfl hl.1 (Nat.le_of_ble_eq_true rfl) dX4_deliver_217 ⟨Nat.le_of_ble_eq_true rfl, Nat.le_of_ble_eq_true rfl⟩) hI hA (fun u_13 H locs eu_13 hI => ?_)
            subst eu_13
            refine lv_goto (tgt := 279) hx hb dX4_deliver_220 (by decide) ?_
            refine lv_iconst (v := nI 1) hx hb dX4_deliver_279 (by decide) ?_
            exact bn_retz hx hb hr hlocks hK (bh_cva (bh_off S k) b v q) hI (⟨rfl, by show _ = bh_do (bh_off S k) 5 b v q g (S.2.2.2 26 k); unfold bh_do; rw [if_neg (by omega), if_neg (by omega), if_neg (by omega), if_neg (by omega), if_pos rfl]⟩) (by decide) dX4_deliver_280
          · subst hw
            refine lv_tableIn (tgt := 223) hx hb dX4_deliver_120 (by decide) (by decide) rfl (by decide) ?_
            refine lv_aload_n hx hb dX4_deliver_223 rfl (lv_at hl 6 rfl) ?_
            refine bn_get (ci := 3) (v := .int ((bh_off S k).2.1 19)) (C := RX4) (T := TX4) (N := 31) hx hb hts hinX4 hown hK hI 0 rfl rfl 19 (by decide) lk_111 rfl (rfl) dX4_deliver_224 ?_
            refine lv_aload_n hx hb dX4_deliver_227 rfl (lv_at hl 6 rfl) ?_
            refine bn_get (ci := 3) (v := .ref (ad 9)) (C := RX4) (T := TX4) (N := 31) hx hb hts hinX4 hown hK hI 0 rfl rfl 9 (by decide) lk_36 rfl (rfl) dX4_deliver_228 ?_
            refine lv_iload_n hx hb dX4_deliver_231 rfl (lv_at hl 4 rfl) ?_
            refine bn_iald (n := 25) (v := (bh_off S k).2.2.1 9 b) hx hb hK hI 9 0 rfl rfl (by omega) (by first | decide | omega) (rfl) dX4_deliver_232 ?_
            refine lv_icmp_eq (tgt := 244) hx hb dX4_deliver_233 (by decide) (fun c_14 => ?_) (fun c_14 => ?_)
            · refine lv_aload_n hx hb dX4_deliver_244 rfl (lv_at hl 6 rfl) ?_
              refine lv_iload_n hx hb dX4_deliver_245 rfl (lv_at hl 4 rfl) ?_
              refine bn_put (ci := 3) (v := .int (nI b)) (ty := .int) (C := RX4) (T := TX4) (N := 31) (ws' := bh_mw h ad c (bh_i (bh_off S k) 19 (nI b))) hx hb hts hinX4 tyX4 tyX4_ok nmX4 hown hK hI 0 rfl rfl 19 (by decide) lk_111 rfl rfl rfl rfl rfl (Nat.le_of_ble_eq_true rfl) dX4_deliver_246 rfl (fun H locs hI => ?_)
              refine lv_aload_n hx hb dX4_deliver_249 rfl (lv_at hl 6 rfl) ?_
              refine lv_bipush (v := nI 7) hx hb dX4_deliver_250 (by decide) ?_
              refine lv_iload_n hx hb dX4_deliver_252 rfl (lv_at hl 4 rfl) ?_
              refine lv_iconst (v := -1) hx hb dX4_deliver_253 (by decide) ?_
              refine lv_iconst (v := -1) hx hb dX4_deliver_254 (by decide) ?_
              refine lv_lconst (v := 0) hx hb dX4_deliver_255 (by decide) ?_
              refine bn_muv (bn_muV (As := [.int (nI 7), .int (nI b), .int (-1), .int (-1), .long (0)]) (rest := []) ⟨hx, hb, hml, hown, hts⟩ (cm_put l D c h ad _ (bh_i (bh_off S k) 19 (nI b)) 7 (nI b) (-1) (-1) (0) (hoa) (by omega) (by omega)) (cwV 5 hts gX4_deliver_X4_put rfl rfl rfl (by decide +kernel) ⟨Nat.le_of_ble_eq_true rfl, Nat.le_of_ble_eq_true rfl⟩) hK hI 0 3 rfl rfl rfl rfl hl.1 (Nat.le_of_ble_eq_true rfl) dX4_deliver_256 ⟨Nat.le_of_ble_eq_true rfl, Nat.le_of_ble_eq_true rfl⟩) hI hA (fun u_15 H locs eu_15 hI => ?_)
              subst eu_15
              refine lv_goto (tgt := 279) hx hb dX4_deliver_259 (by decide) ?_
              refine lv_iconst (v := nI 1) hx hb dX4_deliver_279 (by decide) ?_
              exact bn_retz hx hb hr hlocks hK (bh_put (bh_i (bh_off S k) 19 (nI b)) (nI 7) (nI b) (-1) (-1) 0 bh_z0 bh_z1) hI (⟨rfl, by show _ = bh_do (bh_off S k) 6 b v q g (S.2.2.2 26 k); unfold bh_do; rw [if_neg (by omega), if_neg (by omega), if_neg (by omega), if_neg (by omega), if_neg (by omega), if_pos rfl]; rw [if_pos (Or.inl c_14)]⟩) (by decide) dX4_deliver_280
            · refine lv_aload_n hx hb dX4_deliver_236 rfl (lv_at hl 6 rfl) ?_
              refine bn_get (ci := 3) (v := .int ((bh_off S k).2.1 19)) (C := RX4) (T := TX4) (N := 31) hx hb hts hinX4 hown hK hI 0 rfl rfl 19 (by decide) lk_111 rfl (rfl) dX4_deliver_237 ?_
              refine lv_iload_n hx hb dX4_deliver_240 rfl (lv_at hl 4 rfl) ?_
              refine lv_icmp_ne (tgt := 279) hx hb dX4_deliver_241 (by decide) (fun c_16 => ?_) (fun c_16 => ?_)
              · refine lv_iconst (v := nI 1) hx hb dX4_deliver_279 (by decide) ?_
                exact bn_retz hx hb hr hlocks hK (bh_off S k) hI (⟨rfl, by show _ = bh_do (bh_off S k) 6 b v q g (S.2.2.2 26 k); unfold bh_do; rw [if_neg (by omega), if_neg (by omega), if_neg (by omega), if_neg (by omega), if_neg (by omega), if_pos rfl]; rw [if_neg (fun z => z.elim c_14 c_16)]⟩) (by decide) dX4_deliver_280
              · refine lv_aload_n hx hb dX4_deliver_244 rfl (lv_at hl 6 rfl) ?_
                refine lv_iload_n hx hb dX4_deliver_245 rfl (lv_at hl 4 rfl) ?_
                refine bn_put (ci := 3) (v := .int (nI b)) (ty := .int) (C := RX4) (T := TX4) (N := 31) (ws' := bh_mw h ad c (bh_i (bh_off S k) 19 (nI b))) hx hb hts hinX4 tyX4 tyX4_ok nmX4 hown hK hI 0 rfl rfl 19 (by decide) lk_111 rfl rfl rfl rfl rfl (Nat.le_of_ble_eq_true rfl) dX4_deliver_246 rfl (fun H locs hI => ?_)
                refine lv_aload_n hx hb dX4_deliver_249 rfl (lv_at hl 6 rfl) ?_
                refine lv_bipush (v := nI 7) hx hb dX4_deliver_250 (by decide) ?_
                refine lv_iload_n hx hb dX4_deliver_252 rfl (lv_at hl 4 rfl) ?_
                refine lv_iconst (v := -1) hx hb dX4_deliver_253 (by decide) ?_
                refine lv_iconst (v := -1) hx hb dX4_deliver_254 (by decide) ?_
                refine lv_lconst (v := 0) hx hb dX4_deliver_255 (by decide) ?_
                refine bn_muv (bn_muV (As := [.int (nI 7), .int (nI b), .int (-1), .int (-1), .long (0)]) (rest := []) ⟨hx, hb, hml, hown, hts⟩ (cm_put l D c h ad _ (bh_i (bh_off S k) 19 (nI b)) 7 (nI b) (-1) (-1) (0) (hoa) (by omega) (by omega)) (cwV 5 hts gX4_deliver_X4_put rfl rfl rfl (by decide +kernel) ⟨Nat.le_of_ble_eq_true rfl, Nat.le_of_ble_eq_true rfl⟩) hK hI 0 3 rfl rfl rfl rfl hl.1 (Nat.le_of_ble_eq_true rfl) dX4_deliver_256 ⟨Nat.le_of_ble_eq_true rfl, Nat.le_of_ble_eq_true rfl⟩) hI hA (fun u_17 H locs eu_17 hI => ?_)
                subst eu_17
                refine lv_goto (tgt := 279) hx hb dX4_deliver_259 (by decide) ?_
                refine lv_iconst (v := nI 1) hx hb dX4_deliver_279 (by decide) ?_
                exact bn_retz hx hb hr hlocks hK (bh_put (bh_i (bh_off S k) 19 (nI b)) (nI 7) (nI b) (-1) (-1) 0 bh_z0 bh_z1) hI (⟨rfl, by show _ = bh_do (bh_off S k) 6 b v q g (S.2.2.2 26 k); unfold bh_do; rw [if_neg (by omega), if_neg (by omega), if_neg (by omega), if_neg (by omega), if_neg (by omega), if_pos rfl]; rw [if_pos (Or.inr c_16)]⟩) (by decide) dX4_deliver_280
          · subst hw
            refine lv_tableOut (tgt := 262) hx hb dX4_deliver_120 (by decide) (by decide) ?_
            refine lv_aload_n hx hb dX4_deliver_262 rfl (lv_at hl 6 rfl) ?_
            refine bn_get (ci := 3) (v := .ref (ad 5)) (C := RX4) (T := TX4) (N := 31) hx hb hts hinX4 hown hK hI 0 rfl rfl 5 (by decide) lk_24 rfl (rfl) dX4_deliver_263 ?_
            refine lv_iload_n hx hb dX4_deliver_266 rfl (lv_at hl 4 rfl) ?_
            refine bn_iald (n := 25) (v := (bh_off S k).2.2.1 5 b) hx hb hK hI 5 0 rfl rfl (by omega) (by first | decide | omega) (rfl) dX4_deliver_267 ?_
            refine lv_iconst (v := nI 3) hx hb dX4_deliver_268 (by decide) ?_
            refine lv_icmp_ne (tgt := 279) hx hb dX4_deliver_269 (by decide) (fun c_18 => ?_) (fun c_18 => ?_)
            · refine lv_iconst (v := nI 1) hx hb dX4_deliver_279 (by decide) ?_
              exact bn_retz hx hb hr hlocks hK (bh_off S k) hI (⟨rfl, by show _ = bh_do (bh_off S k) 7 b v q g (S.2.2.2 26 k); unfold bh_do; rw [if_neg (by omega), if_neg (by omega), if_neg (by omega), if_neg (by omega), if_neg (by omega), if_neg (by omega)]; rw [if_neg c_18]⟩) (by decide) dX4_deliver_280
            · refine lv_aload_n hx hb dX4_deliver_272 rfl (lv_at hl 6 rfl) ?_
              refine bn_get (ci := 3) (v := .ref (ad 5)) (C := RX4) (T := TX4) (N := 31) hx hb hts hinX4 hown hK hI 0 rfl rfl 5 (by decide) lk_24 rfl (rfl) dX4_deliver_273 ?_
              refine lv_iload_n hx hb dX4_deliver_276 rfl (lv_at hl 4 rfl) ?_
              refine lv_iconst (v := nI 4) hx hb dX4_deliver_277 (by decide) ?_
              refine bn_iast (n := 25) (ws' := bh_mw h ad c (bh_r (bh_off S k) 5 b (nI 4))) hx hb hK hI 5 0 rfl rfl (by omega) (by first | decide | omega) dX4_deliver_278 rfl (fun H locs hI => ?_)
              refine lv_iconst (v := nI 1) hx hb dX4_deliver_279 (by decide) ?_
              exact bn_retz hx hb hr hlocks hK (bh_r (bh_off S k) 5 b (nI 4)) hI (⟨rfl, by show _ = bh_do (bh_off S k) 7 b v q g (S.2.2.2 26 k); unfold bh_do; rw [if_neg (by omega), if_neg (by omega), if_neg (by omega), if_neg (by omega), if_neg (by omega), if_neg (by omega)]; rw [if_pos c_18]⟩) (by decide) dX4_deliver_280
        · refine lv_aload_n hx hb dX4_deliver_70 rfl (lv_at hl 6 rfl) ?_
          refine bn_get (ci := 3) (v := .ref (ad 29)) (C := RX4) (T := TX4) (N := 31) hx hb hts hinX4 hown hK hI 0 rfl rfl 29 (by decide) lk_84 rfl (rfl) dX4_deliver_71 ?_
          refine lv_iload hx hb dX4_deliver_74 (lv_at hl 0 rfl) ?_
          refine lv_aload_n hx hb dX4_deliver_76 rfl (lv_at hl 6 rfl) ?_
          refine bn_get (ci := 3) (v := .ref (ad 25)) (C := RX4) (T := TX4) (N := 31) hx hb hts hinX4 hown hK hI 0 rfl rfl 25 (by decide) lk_75 rfl (rfl) dX4_deliver_77 ?_
          refine lv_bipush (v := nI 8) hx hb dX4_deliver_80 (by decide) ?_
          refine lv_iload_n hx hb dX4_deliver_82 rfl (lv_at hl 7 rfl) ?_
          refine bn_imul hx hb dX4_deliver_83 ?_
          refine lv_iload hx hb dX4_deliver_84 (lv_at hl 0 rfl) ?_
          refine bn_iadd hx hb dX4_deliver_86 ?_
          refine bn_iald (n := 3200) (v := S.2.2.1 25 (8 * k + j)) hx hb hK hI 22 0 rfl rfl (by omega) (by first | decide | omega) (by rw [bh_got_r S k j (by omega)]) dX4_deliver_87 ?_
          refine bn_iast (n := 8) (ws' := bh_mw h ad c (bh_r (bh_got S k j) 29 j (S.2.2.1 25 (8 * k + j)))) hx hb hK hI 25 0 rfl rfl (by omega) (by first | decide | omega) dX4_deliver_88 rfl (fun H locs hI => ?_)
          refine lv_aload_n hx hb dX4_deliver_89 rfl (lv_at hl 6 rfl) ?_
          refine bn_get (ci := 3) (v := .ref (ad 30)) (C := RX4) (T := TX4) (N := 31) hx hb hts hinX4 hown hK hI 0 rfl rfl 30 (by decide) lk_87 rfl (rfl) dX4_deliver_90 ?_
          refine lv_iload hx hb dX4_deliver_93 (lv_at hl 0 rfl) ?_
          refine lv_aload_n hx hb dX4_deliver_95 rfl (lv_at hl 6 rfl) ?_
          refine bn_get (ci := 3) (v := .ref (ad 27)) (C := RX4) (T := TX4) (N := 31) hx hb hts hinX4 hown hK hI 0 rfl rfl 27 (by decide) lk_81 rfl (rfl) dX4_deliver_96 ?_
          refine lv_bipush (v := nI 8) hx hb dX4_deliver_99 (by decide) ?_
          refine lv_iload_n hx hb dX4_deliver_101 rfl (lv_at hl 7 rfl) ?_
          refine bn_imul hx hb dX4_deliver_102 ?_
          refine lv_iload hx hb dX4_deliver_103 (lv_at hl 0 rfl) ?_
          refine bn_iadd hx hb dX4_deliver_105 ?_
          refine bn_lald (n := 3200) (v := S.2.2.2 27 (8 * k + j)) hx hb hK hI 24 1 rfl rfl (by omega) (by first | decide | omega) (by show (bh_got S k j).2.2.2 27 _ = _; rw [bh_got_l S k j (by omega)]) dX4_deliver_106 ?_
          refine bn_last (n := 8) (ws' := bh_mw h ad c (bh_l (bh_r (bh_got S k j) 29 j (S.2.2.1 25 (8 * k + j))) 30 j (S.2.2.2 27 (8 * k + j)))) hx hb hK hI 26 1 rfl rfl (by omega) (by first | decide | omega) dX4_deliver_107 rfl (fun H locs hI => ?_)
          refine lv_iinc (v := nI (j + 1)) (lv' := [(8, .int (nI (j + 1))), (6, .long (S.2.2.2 26 k)), (5, .int (S.2.2.1 24 k)), (4, .int (S.2.2.1 23 k)), (3, .int (nI b)), (2, .int (nI w)), (0, .ref h), (1, .int (nI k))]) hx hb dX4_deliver_108 hl (k := 0) rfl (nI_1 _) (by decide) rfl (fun ls hl => ?_)
          refine lv_goto (tgt := 63) hx hb dX4_deliver_111 (by decide) ?_
          exact ih_5 (j + 1) _ _ _ ⟨by omega, hI, lv_sub hl [0, 1, 2, 3, 4, 5, 6, 7] rfl⟩ (by show 8 - (j + 1) < 8 - j; omega)
      · first | exact absurd c_4 (by decide) | exact absurd (by decide) c_4
