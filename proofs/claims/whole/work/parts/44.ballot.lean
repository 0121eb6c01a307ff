set_option maxHeartbeats 1000000 in
set_option maxRecDepth 100000 in
theorem cc_ballot (l : Launch) (D : va_G) (c : bh_C) (h : Nat) (ad : Nat → Nat) (ba : Nat → Nat → Nat) (nv km : Nat) (sz : Nat) (C : cS) (x y z : Int32) (g : Nat) (ha : C.1.1 15 ≤ 400) (hk24 : km ≤ 24) (hg : C.1.2.1 6 = nI g) (hg2 : g ≤ km) : Met l yX3_ballot wsX3_ballot ({ frames := 2, cells := 5, slots := 46, locals := 45 }) (va_Pc [.ref h, .int (x), .int (y), .int (z)] (bh_prm D c (bh_cw h ad ba c nv km (C)) sz)) (va_Qi (fun (r : Int32) (u : ((Nat → Nat → Nat) × Nat × cS)) => r = bc_bR nv km x y z ∧ u.2 = bc_bU C nv km x y z g) (fun u t => bh_post D c (bh_cw h ad u.1 c nv u.2.1 u.2.2) (va_A (bh_cw h ad ba c nv km (C)) sz) t) (va_A (bh_cw h ad ba c nv km (C)) sz)) 5 46 (va_A (bh_cw h ad ba c nv km (C)) sz) := by
  refine Met.ofW (cc := cX3_ballot) (maxL := 7) (ret := (some .int)) (by decide) rfl ?_
  intro p e s m args below meth c0 s₁ B hml hv
  obtain ⟨rfl, hsz, hP, hK, hD0⟩ := hv
  have hx := B.exec
  have hb := B.bytes
  have hr := B.returns
  have hts := atoms_spec (ws := wsX3_ballot) B.pre
  have hown : s.vm.findClass RX3 = some m.cls := findClass_of_methodNamed B.named
  have hlocks := B.notSynchronized
  have hinX3 : ∀ w ∈ wsX30, w ∈ wsX3_ballot := fun _ h => List.mem_cons_of_mem _ (List.mem_append_left _ (List.mem_append_left _ (List.mem_append_right _ h)))
  have hinX1 : ∀ w ∈ wsX10, w ∈ wsX3_ballot := fun _ h => List.mem_cons_of_mem _ (List.mem_append_left _ (List.mem_append_right _ h))
  have hinX0 : ∀ w ∈ wsX00, w ∈ wsX3_ballot := fun _ h => List.mem_cons_of_mem _ (List.mem_append_right _ h)
  have lk_32 : (Cond.fieldLink RX3 32 "BallotHouse" "ballots" "[LBallotHouse$Ballot;").before _ s = true := hts _ (by decide +kernel)
  have lk_39 : (Cond.fieldLink RX3 39 "BallotHouse" "letters" "LBallotHouse$Air;").before _ s = true := hts _ (by decide +kernel)
  have lk_43 : (Cond.fieldLink RX3 43 "BallotHouse" "made" "I").before _ s = true := hts _ (by decide +kernel)
  have lk_50 : (Cond.fieldLink RX3 50 "BallotHouse" "complete" "I").before _ s = true := hts _ (by decide +kernel)
  subst hsz
  have hI := bh_start hP hD0
  generalize hAe : va_A (bh_cw h ad ba c nv km (C)) s.heap.size = A at hI ⊢
  have hA : ∀ q : Nat, s.heap.size ≤ q → A q := fun q h => by rw [← hAe]; exact Or.inr h
  clear hP hD0 hAe
  have hl := lv_entry ([.ref h, .int (x), .int (y), .int (z)]) (n := 7) (Nat.le_of_ble_eq_true rfl)
  rw [lg_entry_eq]
  generalize (lg_sl ([.ref h, .int (x), .int (y), .int (z)]) ++ List.replicate (7 - (lg_sl ([.ref h, .int (x), .int (y), .int (z)])).length) Slot.unset).toArray = ls at hl ⊢
  have hl : lv_has ls 7 [(0, .ref h), (1, .int (x)), (2, .int (y)), (3, .int (z))] := hl
  have hfp := bc_fr_pos g
  have hfr : bh_fr g ≤ km + 1 := by unfold bh_fr; split <;> omega
  refine lv_aload_n hx hb dX3_ballot_0 rfl (lv_at hl 0 rfl) ?_
  refine bn_get (ci := 2) (v := .int (nI km)) (C := RX3) (T := TX3) (N := 8) hx hb hts hinX3 hown hK hI 0 rfl rfl 5 (by decide) lk_43 rfl (rfl) dX3_ballot_1 ?_
  refine lv_bipush (v := nI 24) hx hb dX3_ballot_4 (by decide) ?_
  refine bn_cmp_ge (tgt := 19) hx hb (by omega) (by omega) dX3_ballot_6 (by decide) (fun c_1 => ?_) (fun c_1 => ?_)
  · refine lv_iconst (v := -1) hx hb dX3_ballot_19 (by decide) ?_
    refine W.widen (k := 5) (n := 46) (by omega) (by omega) ?_
    exact bn_reti (wf := fun (u : ((Nat → Nat → Nat) × Nat × cS)) => bh_cw h ad u.1 c nv u.2.1 u.2.2) hx hb hr hlocks hK ((ba, km, C)) hI (⟨by unfold bc_bR bc_bC; rw [decide_eq_false (by omega)]; rfl, by unfold bc_bU bc_bC; rw [decide_eq_false (by omega)]; rfl⟩) dX3_ballot_20
  · refine lv_aload_n hx hb dX3_ballot_9 rfl (lv_at hl 0 rfl) ?_
    refine lv_iload_n hx hb dX3_ballot_10 rfl (lv_at hl 1 rfl) ?_
    refine lv_iload_n hx hb dX3_ballot_11 rfl (lv_at hl 2 rfl) ?_
    refine lv_iload_n hx hb dX3_ballot_12 rfl (lv_at hl 3 rfl) ?_
    refine vp_callSi (bn_roV (As := [.int (x), .int (y), .int (z)]) (rest := []) ⟨hx, hb, hml, hown, hts⟩ (cc_canBe l D c h ad ba nv km C x y z) (cwV 3 hts gX3_ballot_X3_canBe rfl rfl rfl (by decide +kernel) ⟨Nat.le_of_ble_eq_true rfl, Nat.le_of_ble_eq_true rfl⟩) hK hI 0 2 rfl rfl rfl rfl hl.1 (Nat.le_of_ble_eq_true rfl) dX3_ballot_13 ⟨Nat.le_of_ble_eq_true rfl, Nat.le_of_ble_eq_true rfl⟩) (fun r_2 er_2 => ?_)
    subst er_2
    refine lv_if_ne (tgt := 21) hx hb dX3_ballot_16 (by decide) (fun c_3 => ?_) (fun c_3 => ?_)
    · refine lv_aload_n hx hb dX3_ballot_21 rfl (lv_at hl 0 rfl) ?_
      refine bn_get (ci := 2) (v := .int (nI km)) (C := RX3) (T := TX3) (N := 8) hx hb hts hinX3 hown hK hI 0 rfl rfl 5 (by decide) lk_43 rfl (rfl) dX3_ballot_22 ?_
      refine lv_iconst (v := nI 1) hx hb dX3_ballot_25 (by decide) ?_
      refine bn_iadd hx hb dX3_ballot_26 ?_
      refine lv_istore (lv' := [(4, .int (nI (km + 1))), (0, .ref h), (1, .int (x)), (2, .int (y)), (3, .int (z))]) hx hb dX3_ballot_27 hl (by decide) rfl (fun ls hl => ?_)
      refine lv_iconst (v := nI 1) hx hb dX3_ballot_29 (by decide) ?_
      refine lv_aload_n hx hb dX3_ballot_30 rfl (lv_at hl 1 rfl) ?_
      refine bn_get (ci := 2) (v := .int (nI g)) (C := RX3) (T := TX3) (N := 8) hx hb hts hinX3 hown hK hI 0 rfl rfl 6 (by decide) lk_50 rfl (by show some (Value.int (C.1.2.1 6)) = _; rw [hg]) dX3_ballot_31 ?_
      refine va_mmax hx hb (hml.trans hl.1.symm) hown (hts (.methodLink RX3 15 Lib.Math.max.name) (by decide +kernel)) (hts (.static Lib.Math.max.name) (by decide +kernel)) (hts (.initialized "java/lang/Math") (by decide +kernel)) (hts (.code Lib.Math.max.name Lib.Math.max.code 2 (some .int)) (by decide +kernel)) (Nat.le_of_ble_eq_true rfl) (Nat.le_of_ble_eq_true rfl) (Nat.le_of_ble_eq_true rfl) (Nat.le_of_ble_eq_true rfl) dX3_ballot_34 ?_
      refine lv_topi (fun z_4 ez_4 => ?_)
      obtain rfl : z_4 = nI (bh_fr g) := ez_4.trans (bc_fr_max g (by omega))
      refine lv_istore (lv' := [(5, .int (nI (bh_fr g))), (4, .int (nI (km + 1))), (0, .ref h), (1, .int (x)), (2, .int (y)), (3, .int (z))]) hx hb dX3_ballot_37 hl (by decide) rfl (fun ls hl => ?_)
      refine bm_new (ci := 1) (fs := [.int 0, .int 0, .int 0, .int 0, .int 0, .int 0, .int 0, .int 0, .int 0, .int 0, .null, .null, .null, .null]) (C := RX1) (T := TX1) (N := 14) hx hb hts hinX1 tyX1 tyX1_ok hown (hts (.classLink RX3 30 RX1) (by decide +kernel)) (hts (.instantiable RX1 14) (by decide +kernel)) (hts (.initialized RX1) (by decide +kernel)) hK hI hA rfl (fun j hj => by rcases (show j = 0 ∨ j = 1 ∨ j = 2 ∨ j = 3 ∨ j = 4 ∨ j = 5 ∨ j = 6 ∨ j = 7 ∨ j = 8 ∨ j = 9 ∨ j = 10 ∨ j = 11 ∨ j = 12 ∨ j = 13 by omega) with rfl | rfl | rfl | rfl | rfl | rfl | rfl | rfl | rfl | rfl | rfl | rfl | rfl | rfl <;> rfl) (by show _ ≤ 5; omega) (by show _ ≤ 46; omega) dX3_ballot_39 (fun qb H hI => ?_)
      refine lv_dup hx hb dX3_ballot_42 rfl ?_
      refine lv_iload hx hb dX3_ballot_43 (lv_at hl 1 rfl) ?_
      refine lv_iload_n hx hb dX3_ballot_45 rfl (lv_at hl 3 rfl) ?_
      refine lv_iload_n hx hb dX3_ballot_46 rfl (lv_at hl 4 rfl) ?_
      refine lv_iload_n hx hb dX3_ballot_47 rfl (lv_at hl 5 rfl) ?_
      refine lv_aload_n hx hb dX3_ballot_48 rfl (lv_at hl 2 rfl) ?_
      refine bn_get (ci := 2) (v := .int (C.1.2.1 6)) (C := RX3) (T := TX3) (N := 8) hx hb hts hinX3 hown hK hI 0 rfl rfl 6 (by decide) lk_50 rfl (rfl) dX3_ballot_49 ?_
      refine lv_aload_n hx hb dX3_ballot_52 rfl (lv_at hl 2 rfl) ?_
      refine lv_iload hx hb dX3_ballot_53 (lv_at hl 0 rfl) ?_
      refine vp_callSi (bn_roV (As := [.int (nI (bh_fr g))]) (rest := [.int (C.1.2.1 6), .int (z), .int (y), .int (x), .int (nI (km + 1)), .ref qb, .ref qb]) ⟨hx, hb, hml, hown, hts⟩ (cc_membersFrom l D c h ad ba nv km C (bh_fr g) (by omega) hk24) (cwV 1 hts gX3_ballot_X3_membersFrom rfl rfl rfl (by decide +kernel) ⟨Nat.le_of_ble_eq_true rfl, Nat.le_of_ble_eq_true rfl⟩) hK (bf_right (bf_swap hI)) 0 2 rfl rfl rfl rfl hl.1 (Nat.le_of_ble_eq_true rfl) dX3_ballot_55 ⟨Nat.le_of_ble_eq_true rfl, Nat.le_of_ble_eq_true rfl⟩) (fun r_5 er_5 => ?_)
      subst er_5
      refine bm_frv (mc := 4) (ms := 32) (wa := bh_cw h ad ba c nv km C) (wc := [(qb, .inr (1, [.int 0, .int 0, .int 0, .int 0, .int 0, .int 0, .int 0, .int 0, .int 0, .int 0, .null, .null, .null, .null]))]) (va_runI (mc := 4) (ms := 32) (As := [.int (nI (km + 1)), .int (x), .int (y), .int (z), .int (C.1.2.1 6), .int (bc_mfL C (bh_fr g) (km + 1 - bh_fr g))]) (rest := [.ref qb]) ⟨hx, hb, hml, hown, hts⟩ (ck_ballot l D c qb H.size (nI (km + 1)) x y z (C.1.2.1 6) (bc_mfL C (bh_fr g) (km + 1 - bh_fr g))) (cwI 6 hts gX3_ballot_X1_init rfl rfl rfl (hts (.initialized RX1) (by decide +kernel)) (hts (.methodLink RX3 57 yX1_init) (by decide +kernel)) (hts (.instanceMethod yX1_init) (by decide +kernel)) rfl (by decide +kernel) ⟨Nat.le_of_ble_eq_true rfl, Nat.le_of_ble_eq_true rfl⟩) (bm_prI hK (bf_right hI)) rfl rfl hl.1 rfl (lv_room (Nat.le_of_ble_eq_true rfl)) dX3_ballot_58 ⟨by show _ ≤ 5; omega, by show _ ≤ 46; omega⟩) hI hA (fun ub H locs _ hI => ?_)
      have hI : bh_I D (bh_cw h ad ba c nv km (C) ++ bh_w5 c qb ub (nI (km + 1)) x y z (C.1.2.1 6) (bc_mfL C (bh_fr g) (km + 1 - bh_fr g))) A s.heap H locs := hI
      refine lv_astore (lv' := [(6, .ref qb), (5, .int (nI (bh_fr g))), (4, .int (nI (km + 1))), (0, .ref h), (1, .int (x)), (2, .int (y)), (3, .int (z))]) hx hb dX3_ballot_61 hl (by decide) rfl (fun ls hl => ?_)
      refine lv_aload_n hx hb dX3_ballot_63 rfl (lv_at hl 3 rfl) ?_
      refine bn_get (ci := 2) (v := .ref (ad 4)) (C := RX3) (T := TX3) (N := 8) hx hb hts hinX3 hown hK hI 0 rfl rfl 4 (by decide) lk_32 rfl (rfl) dX3_ballot_64 ?_
      refine lv_aload_n hx hb dX3_ballot_67 rfl (lv_at hl 3 rfl) ?_
      refine bn_get (ci := 2) (v := .int (nI km)) (C := RX3) (T := TX3) (N := 8) hx hb hts hinX3 hown hK hI 0 rfl rfl 5 (by decide) lk_43 rfl (rfl) dX3_ballot_68 ?_
      refine lv_aload hx hb dX3_ballot_71 (lv_at hl 0 rfl) ?_
      refine va_astq hx hb hK.1 hI.1 hI.2.1 hI.2.2 3 3 (bh_cw h ad ba c nv km C).length 1 rfl rfl (by rw [List.getElem?_append_right (Nat.le_refl _), Nat.sub_self]; rfl) rfl (vp_in_nI (by omega) (by omega)) dX3_ballot_73 (fun H locs h1 h2 h3 => ?_)
      rw [nI_clamp (by omega)] at h1 h2
      have hI : bh_I D ((bh_cw h ad ba c nv km (C) ++ bh_w5 c qb ub (nI (km + 1)) x y z (C.1.2.1 6) (bc_mfL C (bh_fr g) (km + 1 - bh_fr g))).set 3 (ad 4, .inl (c.2.2.2, 24, .inr (.inr (.inr (.inr (va_up (bh_bref ba km) km (some qb)))))))) A s.heap H locs := ⟨h1, h2, h3⟩
      refine lv_aload_n hx hb dX3_ballot_74 rfl (lv_at hl 3 rfl) ?_
      refine lv_iload hx hb dX3_ballot_75 (lv_at hl 2 rfl) ?_
      refine bn_put (ci := 2) (v := .int (nI (km + 1))) (ty := .int) (C := RX3) (T := TX3) (N := 8) (ws' := bh_cw h ad (bh_ba ba km qb ub) c nv (km + 1) (bc_nb C km x y z g)) hx hb hts hinX3 tyX3 tyX3_ok nmX3 hown hK hI 0 rfl rfl 5 (by decide) lk_43 rfl rfl rfl rfl rfl (Nat.le_of_ble_eq_true rfl) dX3_ballot_77 (bh_cw_grow h ad ba c nv km C qb ub x y z g) (fun H locs hI => ?_)
      refine lv_aload_n hx hb dX3_ballot_80 rfl (lv_at hl 3 rfl) ?_
      refine bn_get (ci := 2) (v := .ref (ad 7)) (C := RX3) (T := TX3) (N := 8) hx hb hts hinX3 hown hK hI 0 rfl rfl 7 (by decide) lk_39 rfl (rfl) dX3_ballot_81 ?_
      refine lv_iconst (v := nI 1) hx hb dX3_ballot_84 (by decide) ?_
      refine lv_iload hx hb dX3_ballot_85 (lv_at hl 2 rfl) ?_
      refine lv_iconst (v := -1) hx hb dX3_ballot_87 (by decide) ?_
      refine lv_iconst (v := -1) hx hb dX3_ballot_88 (by decide) ?_
      refine lv_lconst (v := 0) hx hb dX3_ballot_89 (by decide) ?_
      refine bn_muv (bn_muV (As := [.int (nI 1), .int (nI (km + 1)), .int (-1), .int (-1), .long (0)]) (rest := []) ⟨hx, hb, hml, hown, hts⟩ (cc_send l D c h ad (bh_ba ba km qb ub) nv (km + 1) _ (bc_nb C km x y z g) (nI 1) (nI (km + 1)) (-1) (-1) 0 ha) (cwV 5 hts gX3_ballot_X0_send rfl rfl rfl (by decide +kernel) ⟨Nat.le_of_ble_eq_true rfl, Nat.le_of_ble_eq_true rfl⟩) hK hI 4 0 rfl rfl rfl rfl hl.1 (Nat.le_of_ble_eq_true rfl) dX3_ballot_90 ⟨Nat.le_of_ble_eq_true rfl, Nat.le_of_ble_eq_true rfl⟩) hI hA (fun u_6 H locs eu_6 hI => ?_)
      subst eu_6
      refine lv_iload hx hb dX3_ballot_93 (lv_at hl 2 rfl) ?_
      refine W.widen (k := 5) (n := 46) (by omega) (by omega) ?_
      exact bn_reti (wf := fun (u : ((Nat → Nat → Nat) × Nat × cS)) => bh_cw h ad u.1 c nv u.2.1 u.2.2) hx hb hr hlocks hK ((bh_ba ba km qb ub, km + 1, bc_bal C km x y z g)) hI (⟨by unfold bc_bR bc_bC; rw [decide_eq_true (show km < 24 by omega), bh_tf_ne c_3]; rfl, by unfold bc_bU bc_bC; rw [decide_eq_true (show km < 24 by omega), bh_tf_ne c_3]; rfl⟩) dX3_ballot_95
    · refine lv_iconst (v := -1) hx hb dX3_ballot_19 (by decide) ?_
      refine W.widen (k := 5) (n := 46) (by omega) (by omega) ?_
      exact bn_reti (wf := fun (u : ((Nat → Nat → Nat) × Nat × cS)) => bh_cw h ad u.1 c nv u.2.1 u.2.2) hx hb hr hlocks hK ((ba, km, C)) hI (⟨by unfold bc_bR bc_bC; rw [bh_tf_eq c_3, Bool.and_false]; rfl, by unfold bc_bU bc_bC; rw [bh_tf_eq c_3, Bool.and_false]; rfl⟩) dX3_ballot_20
